/-! ===== the constructors ===== -/
abbrev md_X0_init : sm_Md := (RX0, cX0_init, 1, none)
abbrev md_X1_init : sm_Md := (RX1, cX1_init, 1, none)
abbrev md_X2_init : sm_Md := (RX2, cX2_init, 1, none)
abbrev md_X3_init : sm_Md := (RX3, cX3_init, 1, none)
abbrev md_X4_init : sm_Md := (RX4, cX4_init, 1, none)
abbrev md_X5_init : sm_Md := (RX5, cX5_init, 1, none)
abbrev md_X6_init : sm_Md := (RX6, cX6_init, 2, none)
abbrev md_X7_init : sm_Md := (RX7, cX7_init, 1, none)
abbrev md_X8_init : sm_Md := (RX8, cX8_init, 1, none)
abbrev md_X9_init : sm_Md := (RX9, cX9_init, 1, none)
abbrev md_X10_init : sm_Md := (RX10, cX10_init, 1, none)
abbrev md_X11_init : sm_Md := (RX11, cX11_init, 1, none)
abbrev md_X12_init : sm_Md := (RX12, cX12_init, 1, none)
theorem oi_1 : Cond.instanceMethod objectInit ∈ sm_TB := sm_w (List.mem_of_getElem? (i := 93) (by decide +kernel)) rfl
theorem oi_2 : Cond.code objectInit ⟨#[0xb1]⟩ 1 none ∈ sm_TB := sm_w (List.mem_of_getElem? (i := 94) (by decide +kernel)) rfl
theorem ac_0 : Cond.arrayClass (newarray.typeOf .int) ∈ sm_TB := sm_w (List.mem_of_getElem? (i := 125) (by decide +kernel)) rfl
theorem ac_1 : Cond.arrayClass (newarray.typeOf .char) ∈ sm_TB := sm_w (List.mem_of_getElem? (i := 505) (by decide +kernel)) rfl
theorem ac_2 : Cond.arrayClass (newarray.typeOf .boolean) ∈ sm_TB := sm_w (List.mem_of_getElem? (i := 310) (by decide +kernel)) rfl
theorem ac_3 : Cond.arrayClass (newarray.typeOf .long) ∈ sm_TB := sm_w (List.mem_of_getElem? (i := 371) (by decide +kernel)) rfl
theorem nm_o1 {a n : Nat} (i : Nat) (h : a < n) : n + i ≠ a := by omega
theorem nm_o2 {a n : Nat} (i : Nat) (h : a < n) : a ≠ n + i := by omega
theorem nm_o3 {a n : Nat} (i : Nat) (h : a < n) : a < n + i := by omega
theorem nm_o4 {n i j : Nat} (h : i < j) : n + i < n + j := by omega
theorem nm_o5 {n i j : Nat} (h : i ≠ j) : n + i ≠ n + j := by omega
theorem nm_l5 {dh l : List nm_E} {a : Nat} {e : nm_E} (h : dh[a]? = some e) : (dh ++ l)[a]? = some e := by
  rw [List.getElem?_append_left (List.getElem?_eq_some_iff.mp h).1]
  exact h
theorem fd_0 : ∀ j, j < 1 → defaultValue (sm_tyf 0 j) = vp_V [.null] j := by decide +kernel
theorem fd_1 : ∀ j, j < 3 → defaultValue (sm_tyf 1 j) = vp_V [.null, .null, .int 0] j := by decide +kernel
theorem fd_2 : ∀ j, j < 4 → defaultValue (sm_tyf 2 j) = vp_V [.null, .int 0, .int 0, .int 0] j := by decide +kernel
theorem fd_3 : ∀ j, j < 3 → defaultValue (sm_tyf 3 j) = vp_V [.null, .null, .null] j := by decide +kernel
theorem fd_4 : ∀ j, j < 12 → defaultValue (sm_tyf 4 j) = vp_V [.null, .null, .null, .null, .null, .null, .null, .null, .null, .null, .int 0, .int 0] j := by decide +kernel
theorem fd_5 : ∀ j, j < 1 → defaultValue (sm_tyf 5 j) = vp_V [.null] j := by decide +kernel
theorem fd_6 : ∀ j, j < 3 → defaultValue (sm_tyf 6 j) = vp_V [.null, .int 0, .int 0] j := by decide +kernel
theorem fd_7 : ∀ j, j < 2 → defaultValue (sm_tyf 7 j) = vp_V [.null, .int 0] j := by decide +kernel
theorem fd_8 : ∀ j, j < 5 → defaultValue (sm_tyf 8 j) = vp_V [.null, .null, .null, .int 0, .int 0] j := by decide +kernel
theorem fd_9 : ∀ j, j < 1 → defaultValue (sm_tyf 9 j) = vp_V [.null] j := by decide +kernel
theorem fd_10 : ∀ j, j < 8 → defaultValue (sm_tyf 10 j) = vp_V [.null, .null, .null, .null, .int 0, .int 0, .int 0, .int 0] j := by decide +kernel
theorem fd_11 : ∀ j, j < 18 → defaultValue (sm_tyf 11 j) = vp_V [.null, .null, .null, .null, .null, .null, .null, .null, .null, .null, .int 0, .null, .int 0, .null, .int 0, .int 0, .int 0, .int 0] j := by decide +kernel
theorem fd_12 : ∀ j, j < 36 → defaultValue (sm_tyf 12 j) = vp_V [.int 0, .int 0, .int 0, .int 0, .null, .int 0, .null, .int 0, .null, .null, .null, .null, .int 0, .null, .null, .int 0, .null, .null, .int 0, .null, .int 0, .null, .null, .null, .null, .null, .null, .null, .null, .null, .int 0, .int 0, .int 0, .int 0, .int 0, .null] j := by decide +kernel
theorem d_X7_init_0 : decode cX7_init 0 = .ok (.aload_n 0, 1) := by decide +kernel
theorem d_X7_init_1 : decode cX7_init 1 = .ok (.invokespecial 3, 3) := by decide +kernel
theorem ol_X7 : Cond.methodLink RX7 3 objectInit ∈ sm_TB := sm_w (List.mem_of_getElem? (i := 239) (by decide +kernel)) rfl
theorem d_X7_init_4 : decode cX7_init 4 = .ok (.aload_n 0, 1) := by decide +kernel
theorem d_X7_init_5 : decode cX7_init 5 = .ok (.sipush 240, 3) := by decide +kernel
theorem d_X7_init_8 : decode cX7_init 8 = .ok (.newarray .int, 2) := by decide +kernel
theorem d_X7_init_10 : decode cX7_init 10 = .ok (.putfield 9, 3) := by decide +kernel
theorem ff_X7_9 : nm_FF RX7 9 7 0 := ⟨_, rfl, by decide, sm_w (List.mem_of_getElem? (i := 240) (by decide +kernel)) rfl, rfl, rfl⟩
theorem d_X7_init_13 : decode cX7_init 13 = .ok (.return_, 1) := by decide +kernel
def nm_X7_1 (dh : List nm_E) (a n : Nat) : List nm_E := dh ++ ([.inl (0, 240, fun _ => 0, fun _ => 0, [])] : List nm_E)
theorem nl_X7_1 {dh : List nm_E} {a n : Nat} (h : dh.length = n) : (nm_X7_1 dh a n).length = n + 1 := by unfold nm_X7_1; rw [List.length_append, h]; rfl
theorem np_X7_1 {dh : List nm_E} {a n b : Nat} {e : nm_E} (hne : b ≠ a) (hb : b < n) (h : dh[b]? = some e) : (nm_X7_1 dh a n)[b]? = some e := nm_l5 h
def nm_X7_2 (dh : List nm_E) (a n : Nat) : List nm_E := (nm_X7_1 dh a n).set a (.inr (7, [.ref n, .int 0]) : nm_E)
theorem nl_X7_2 {dh : List nm_E} {a n : Nat} (h : dh.length = n) : (nm_X7_2 dh a n).length = n + 1 := by unfold nm_X7_2; rw [List.length_set]; exact nl_X7_1 h
theorem np_X7_2 {dh : List nm_E} {a n b : Nat} {e : nm_E} (hne : b ≠ a) (hb : b < n) (h : dh[b]? = some e) : (nm_X7_2 dh a n)[b]? = some e := nm_l4 (by omega) (np_X7_1 hne hb h)
abbrev nm_X7 (dh : List nm_E) (a n : Nat) : List nm_E := nm_X7_2 dh a n
theorem nl_X7 {dh : List nm_E} {a n : Nat} (h : dh.length = n) : (nm_X7 dh a n).length = n + 1 := nl_X7_2 h
theorem np_X7 {dh : List nm_E} {a n b : Nat} {e : nm_E} (hne : b ≠ a) (hb : b < n) (h : dh[b]? = some e) : (nm_X7 dh a n)[b]? = some e := np_X7_2 hne hb h
set_option maxRecDepth 100000 in
set_option maxHeartbeats 1000000 in
theorem cN_X7 {dh : List nm_E} {a n : Nat} (hn : dh.length = n) (ha : dh[a]? = some (.inr (7, [.null, .int 0])))  : nm_Ct yX7_init md_X7_init 1 1 240 [.ref a] dh (nm_X7 dh a n) := by
  have han : a < n := by rw [← hn]; exact (List.getElem?_eq_some_iff.mp ha).1
  have hp : 0 < n := by omega
  refine nm_enter (ls0 := [some (.ref a)]) 0 pn_X7 rfl rfl rfl (by decide) rfl hn ?_
  refine nm_aload_n (q := 1) d_X7_init_0 rfl rfl ?_
  refine nm_objinit (q := 4) d_X7_init_1 rfl ol_X7 oi_1 oi_2 (Nat.le_of_ble_eq_true rfl) (Nat.le_of_ble_eq_true rfl) ?_
  refine nm_aload_n (q := 5) d_X7_init_4 rfl rfl ?_
  refine nm_sipush (q := 8) (v := 240) d_X7_init_5 rfl (by decide) ?_
  refine nm_newarray (nc := 0) (ns := 0) (q := 10) (n := n) (N := 240) d_X7_init_8 rfl ac_0 (Or.inl ⟨rfl, rfl⟩) (by decide) (by decide) (Nat.le_of_ble_eq_true rfl) hn rfl hp (Nat.le_of_ble_eq_true rfl) (Nat.le_of_ble_eq_true rfl) (fun d1 e1 => ?_)
  have l1 : d1.length = (n + 1) := nm_la e1 hn
  have t1 : d1[a]? = some (.inr (7, [.null, .int 0])) := by rw [e1]; exact nm_l1 ha
  have E1 : d1 = nm_X7_1 dh a n := by rw [e1]; rfl
  refine nm_putF (q := 13) (fs1 := [.ref n, .int 0]) d_X7_init_10 rfl ff_X7_9 t1 (Nat.le_of_ble_eq_true rfl) (fun _ => ⟨rfl, rfl⟩) rfl (fun d2 e2 => ?_)
  have l2 : d2.length = (n + 1) := nm_ls e2 l1
  have t2 : d2[a]? = some (.inr (7, [.ref n, .int 0])) := by rw [e2]; exact nm_l2 t1
  have E2 : d2 = nm_X7_2 dh a n := by rw [e2, E1]; rfl
  exact nm_ret (nc := 1) (ns := 240) d_X7_init_13 rfl rfl (by dsimp only; exact E2)
theorem d_X1_init_0 : decode cX1_init 0 = .ok (.aload_n 0, 1) := by decide +kernel
theorem d_X1_init_1 : decode cX1_init 1 = .ok (.invokespecial 3, 3) := by decide +kernel
theorem ol_X1 : Cond.methodLink RX1 3 objectInit ∈ sm_TB := sm_w (List.mem_of_getElem? (i := 106) (by decide +kernel)) rfl
theorem d_X1_init_4 : decode cX1_init 4 = .ok (.aload_n 0, 1) := by decide +kernel
theorem d_X1_init_5 : decode cX1_init 5 = .ok (.sipush 200, 3) := by decide +kernel
theorem d_X1_init_8 : decode cX1_init 8 = .ok (.newarray .int, 2) := by decide +kernel
theorem d_X1_init_10 : decode cX1_init 10 = .ok (.putfield 9, 3) := by decide +kernel
theorem ff_X1_9 : nm_FF RX1 9 1 0 := ⟨_, rfl, by decide, sm_w (List.mem_of_getElem? (i := 107) (by decide +kernel)) rfl, rfl, rfl⟩
theorem d_X1_init_13 : decode cX1_init 13 = .ok (.aload_n 0, 1) := by decide +kernel
theorem d_X1_init_14 : decode cX1_init 14 = .ok (.sipush 200, 3) := by decide +kernel
theorem d_X1_init_17 : decode cX1_init 17 = .ok (.newarray .int, 2) := by decide +kernel
theorem d_X1_init_19 : decode cX1_init 19 = .ok (.putfield 15, 3) := by decide +kernel
theorem ff_X1_15 : nm_FF RX1 15 1 1 := ⟨_, rfl, by decide, sm_w (List.mem_of_getElem? (i := 111) (by decide +kernel)) rfl, rfl, rfl⟩
theorem d_X1_init_22 : decode cX1_init 22 = .ok (.return_, 1) := by decide +kernel
def nm_X1_1 (dh : List nm_E) (a n : Nat) : List nm_E := dh ++ ([.inl (0, 200, fun _ => 0, fun _ => 0, [])] : List nm_E)
theorem nl_X1_1 {dh : List nm_E} {a n : Nat} (h : dh.length = n) : (nm_X1_1 dh a n).length = n + 1 := by unfold nm_X1_1; rw [List.length_append, h]; rfl
theorem np_X1_1 {dh : List nm_E} {a n b : Nat} {e : nm_E} (hne : b ≠ a) (hb : b < n) (h : dh[b]? = some e) : (nm_X1_1 dh a n)[b]? = some e := nm_l5 h
def nm_X1_2 (dh : List nm_E) (a n : Nat) : List nm_E := (nm_X1_1 dh a n).set a (.inr (1, [.ref n, .null, .int 0]) : nm_E)
theorem nl_X1_2 {dh : List nm_E} {a n : Nat} (h : dh.length = n) : (nm_X1_2 dh a n).length = n + 1 := by unfold nm_X1_2; rw [List.length_set]; exact nl_X1_1 h
theorem np_X1_2 {dh : List nm_E} {a n b : Nat} {e : nm_E} (hne : b ≠ a) (hb : b < n) (h : dh[b]? = some e) : (nm_X1_2 dh a n)[b]? = some e := nm_l4 (by omega) (np_X1_1 hne hb h)
def nm_X1_3 (dh : List nm_E) (a n : Nat) : List nm_E := (nm_X1_2 dh a n) ++ ([.inl (0, 200, fun _ => 0, fun _ => 0, [])] : List nm_E)
theorem nl_X1_3 {dh : List nm_E} {a n : Nat} (h : dh.length = n) : (nm_X1_3 dh a n).length = n + 2 := by unfold nm_X1_3; rw [List.length_append, nl_X1_2 h]; rfl
theorem np_X1_3 {dh : List nm_E} {a n b : Nat} {e : nm_E} (hne : b ≠ a) (hb : b < n) (h : dh[b]? = some e) : (nm_X1_3 dh a n)[b]? = some e := nm_l5 (np_X1_2 hne hb h)
def nm_X1_4 (dh : List nm_E) (a n : Nat) : List nm_E := (nm_X1_3 dh a n).set a (.inr (1, [.ref n, .ref (n + 1), .int 0]) : nm_E)
theorem nl_X1_4 {dh : List nm_E} {a n : Nat} (h : dh.length = n) : (nm_X1_4 dh a n).length = n + 2 := by unfold nm_X1_4; rw [List.length_set]; exact nl_X1_3 h
theorem np_X1_4 {dh : List nm_E} {a n b : Nat} {e : nm_E} (hne : b ≠ a) (hb : b < n) (h : dh[b]? = some e) : (nm_X1_4 dh a n)[b]? = some e := nm_l4 (by omega) (np_X1_3 hne hb h)
abbrev nm_X1 (dh : List nm_E) (a n : Nat) : List nm_E := nm_X1_4 dh a n
theorem nl_X1 {dh : List nm_E} {a n : Nat} (h : dh.length = n) : (nm_X1 dh a n).length = n + 2 := nl_X1_4 h
theorem np_X1 {dh : List nm_E} {a n b : Nat} {e : nm_E} (hne : b ≠ a) (hb : b < n) (h : dh[b]? = some e) : (nm_X1 dh a n)[b]? = some e := np_X1_4 hne hb h
set_option maxRecDepth 100000 in
set_option maxHeartbeats 1000000 in
theorem cN_X1_p1 {dh d2 : List nm_E} {a n : Nat} (han : a < n) (hp : 0 < n) (l2 : d2.length = (n + 1)) (t2 : d2[a]? = some (.inr (1, [.ref n, .null, .int 0]))) (E2 : d2 = nm_X1_2 dh a n) : nm_J (md_X1_init, 1, 2, 400, n, nm_X1 dh a n) 13 [some (.ref a)] [] d2 1 200 := by
  refine nm_aload_n (q := 14) d_X1_init_13 rfl rfl ?_
  refine nm_sipush (q := 17) (v := 200) d_X1_init_14 rfl (by decide) ?_
  refine nm_newarray (nc := 1) (ns := 200) (q := 19) (n := (n + 1)) (N := 200) d_X1_init_17 rfl ac_0 (Or.inl ⟨rfl, rfl⟩) (by decide) (by decide) (Nat.le_of_ble_eq_true rfl) l2 rfl (Nat.succ_pos _) (Nat.le_of_ble_eq_true rfl) (Nat.le_of_ble_eq_true rfl) (fun d3 e3 => ?_)
  have l3 : d3.length = (n + 2) := nm_la e3 l2
  have t3 : d3[a]? = some (.inr (1, [.ref n, .null, .int 0])) := by rw [e3]; exact nm_l1 t2
  have E3 : d3 = nm_X1_3 dh a n := by rw [e3, E2]; rfl
  refine nm_putF (q := 22) (fs1 := [.ref n, .ref (n + 1), .int 0]) d_X1_init_19 rfl ff_X1_15 t3 (Nat.le_of_ble_eq_true rfl) (fun _ => ⟨rfl, rfl⟩) rfl (fun d4 e4 => ?_)
  have l4 : d4.length = (n + 2) := nm_ls e4 l3
  have t4 : d4[a]? = some (.inr (1, [.ref n, .ref (n + 1), .int 0])) := by rw [e4]; exact nm_l2 t3
  have E4 : d4 = nm_X1_4 dh a n := by rw [e4, E3]; rfl
  exact nm_ret (nc := 2) (ns := 400) d_X1_init_22 rfl rfl (by dsimp only; exact E4)
set_option maxRecDepth 100000 in
set_option maxHeartbeats 1000000 in
theorem cN_X1 {dh : List nm_E} {a n : Nat} (hn : dh.length = n) (ha : dh[a]? = some (.inr (1, [.null, .null, .int 0])))  : nm_Ct yX1_init md_X1_init 1 2 400 [.ref a] dh (nm_X1 dh a n) := by
  have han : a < n := by rw [← hn]; exact (List.getElem?_eq_some_iff.mp ha).1
  have hp : 0 < n := by omega
  refine nm_enter (ls0 := [some (.ref a)]) 0 pn_X1 rfl rfl rfl (by decide) rfl hn ?_
  refine nm_aload_n (q := 1) d_X1_init_0 rfl rfl ?_
  refine nm_objinit (q := 4) d_X1_init_1 rfl ol_X1 oi_1 oi_2 (Nat.le_of_ble_eq_true rfl) (Nat.le_of_ble_eq_true rfl) ?_
  refine nm_aload_n (q := 5) d_X1_init_4 rfl rfl ?_
  refine nm_sipush (q := 8) (v := 200) d_X1_init_5 rfl (by decide) ?_
  refine nm_newarray (nc := 0) (ns := 0) (q := 10) (n := n) (N := 200) d_X1_init_8 rfl ac_0 (Or.inl ⟨rfl, rfl⟩) (by decide) (by decide) (Nat.le_of_ble_eq_true rfl) hn rfl hp (Nat.le_of_ble_eq_true rfl) (Nat.le_of_ble_eq_true rfl) (fun d1 e1 => ?_)
  have l1 : d1.length = (n + 1) := nm_la e1 hn
  have t1 : d1[a]? = some (.inr (1, [.null, .null, .int 0])) := by rw [e1]; exact nm_l1 ha
  have E1 : d1 = nm_X1_1 dh a n := by rw [e1]; rfl
  refine nm_putF (q := 13) (fs1 := [.ref n, .null, .int 0]) d_X1_init_10 rfl ff_X1_9 t1 (Nat.le_of_ble_eq_true rfl) (fun _ => ⟨rfl, rfl⟩) rfl (fun d2 e2 => ?_)
  have l2 : d2.length = (n + 1) := nm_ls e2 l1
  have t2 : d2[a]? = some (.inr (1, [.ref n, .null, .int 0])) := by rw [e2]; exact nm_l2 t1
  have E2 : d2 = nm_X1_2 dh a n := by rw [e2, E1]; rfl
  exact cN_X1_p1 han hp l2 t2 E2
theorem d_X3_init_0 : decode cX3_init 0 = .ok (.aload_n 0, 1) := by decide +kernel
theorem d_X3_init_1 : decode cX3_init 1 = .ok (.invokespecial 3, 3) := by decide +kernel
theorem ol_X3 : Cond.methodLink RX3 3 objectInit ∈ sm_TB := sm_w (List.mem_of_getElem? (i := 169) (by decide +kernel)) rfl
theorem d_X3_init_4 : decode cX3_init 4 = .ok (.aload_n 0, 1) := by decide +kernel
theorem d_X3_init_5 : decode cX3_init 5 = .ok (.sipush 200, 3) := by decide +kernel
theorem d_X3_init_8 : decode cX3_init 8 = .ok (.newarray .int, 2) := by decide +kernel
theorem d_X3_init_10 : decode cX3_init 10 = .ok (.putfield 9, 3) := by decide +kernel
theorem ff_X3_9 : nm_FF RX3 9 3 0 := ⟨_, rfl, by decide, sm_w (List.mem_of_getElem? (i := 170) (by decide +kernel)) rfl, rfl, rfl⟩
theorem d_X3_init_13 : decode cX3_init 13 = .ok (.aload_n 0, 1) := by decide +kernel
theorem d_X3_init_14 : decode cX3_init 14 = .ok (.sipush 200, 3) := by decide +kernel
theorem d_X3_init_17 : decode cX3_init 17 = .ok (.newarray .int, 2) := by decide +kernel
theorem d_X3_init_19 : decode cX3_init 19 = .ok (.putfield 15, 3) := by decide +kernel
theorem ff_X3_15 : nm_FF RX3 15 3 1 := ⟨_, rfl, by decide, sm_w (List.mem_of_getElem? (i := 174) (by decide +kernel)) rfl, rfl, rfl⟩
theorem d_X3_init_22 : decode cX3_init 22 = .ok (.aload_n 0, 1) := by decide +kernel
theorem d_X3_init_23 : decode cX3_init 23 = .ok (.sipush 201, 3) := by decide +kernel
theorem d_X3_init_26 : decode cX3_init 26 = .ok (.newarray .int, 2) := by decide +kernel
theorem d_X3_init_28 : decode cX3_init 28 = .ok (.putfield 18, 3) := by decide +kernel
theorem ff_X3_18 : nm_FF RX3 18 3 2 := ⟨_, rfl, by decide, sm_w (List.mem_of_getElem? (i := 176) (by decide +kernel)) rfl, rfl, rfl⟩
theorem d_X3_init_31 : decode cX3_init 31 = .ok (.return_, 1) := by decide +kernel
def nm_X3_1 (dh : List nm_E) (a n : Nat) : List nm_E := dh ++ ([.inl (0, 200, fun _ => 0, fun _ => 0, [])] : List nm_E)
theorem nl_X3_1 {dh : List nm_E} {a n : Nat} (h : dh.length = n) : (nm_X3_1 dh a n).length = n + 1 := by unfold nm_X3_1; rw [List.length_append, h]; rfl
theorem np_X3_1 {dh : List nm_E} {a n b : Nat} {e : nm_E} (hne : b ≠ a) (hb : b < n) (h : dh[b]? = some e) : (nm_X3_1 dh a n)[b]? = some e := nm_l5 h
def nm_X3_2 (dh : List nm_E) (a n : Nat) : List nm_E := (nm_X3_1 dh a n).set a (.inr (3, [.ref n, .null, .null]) : nm_E)
theorem nl_X3_2 {dh : List nm_E} {a n : Nat} (h : dh.length = n) : (nm_X3_2 dh a n).length = n + 1 := by unfold nm_X3_2; rw [List.length_set]; exact nl_X3_1 h
theorem np_X3_2 {dh : List nm_E} {a n b : Nat} {e : nm_E} (hne : b ≠ a) (hb : b < n) (h : dh[b]? = some e) : (nm_X3_2 dh a n)[b]? = some e := nm_l4 (by omega) (np_X3_1 hne hb h)
def nm_X3_3 (dh : List nm_E) (a n : Nat) : List nm_E := (nm_X3_2 dh a n) ++ ([.inl (0, 200, fun _ => 0, fun _ => 0, [])] : List nm_E)
theorem nl_X3_3 {dh : List nm_E} {a n : Nat} (h : dh.length = n) : (nm_X3_3 dh a n).length = n + 2 := by unfold nm_X3_3; rw [List.length_append, nl_X3_2 h]; rfl
theorem np_X3_3 {dh : List nm_E} {a n b : Nat} {e : nm_E} (hne : b ≠ a) (hb : b < n) (h : dh[b]? = some e) : (nm_X3_3 dh a n)[b]? = some e := nm_l5 (np_X3_2 hne hb h)
def nm_X3_4 (dh : List nm_E) (a n : Nat) : List nm_E := (nm_X3_3 dh a n).set a (.inr (3, [.ref n, .ref (n + 1), .null]) : nm_E)
theorem nl_X3_4 {dh : List nm_E} {a n : Nat} (h : dh.length = n) : (nm_X3_4 dh a n).length = n + 2 := by unfold nm_X3_4; rw [List.length_set]; exact nl_X3_3 h
theorem np_X3_4 {dh : List nm_E} {a n b : Nat} {e : nm_E} (hne : b ≠ a) (hb : b < n) (h : dh[b]? = some e) : (nm_X3_4 dh a n)[b]? = some e := nm_l4 (by omega) (np_X3_3 hne hb h)
def nm_X3_5 (dh : List nm_E) (a n : Nat) : List nm_E := (nm_X3_4 dh a n) ++ ([.inl (0, 201, fun _ => 0, fun _ => 0, [])] : List nm_E)
theorem nl_X3_5 {dh : List nm_E} {a n : Nat} (h : dh.length = n) : (nm_X3_5 dh a n).length = n + 3 := by unfold nm_X3_5; rw [List.length_append, nl_X3_4 h]; rfl
theorem np_X3_5 {dh : List nm_E} {a n b : Nat} {e : nm_E} (hne : b ≠ a) (hb : b < n) (h : dh[b]? = some e) : (nm_X3_5 dh a n)[b]? = some e := nm_l5 (np_X3_4 hne hb h)
def nm_X3_6 (dh : List nm_E) (a n : Nat) : List nm_E := (nm_X3_5 dh a n).set a (.inr (3, [.ref n, .ref (n + 1), .ref (n + 2)]) : nm_E)
theorem nl_X3_6 {dh : List nm_E} {a n : Nat} (h : dh.length = n) : (nm_X3_6 dh a n).length = n + 3 := by unfold nm_X3_6; rw [List.length_set]; exact nl_X3_5 h
theorem np_X3_6 {dh : List nm_E} {a n b : Nat} {e : nm_E} (hne : b ≠ a) (hb : b < n) (h : dh[b]? = some e) : (nm_X3_6 dh a n)[b]? = some e := nm_l4 (by omega) (np_X3_5 hne hb h)
abbrev nm_X3 (dh : List nm_E) (a n : Nat) : List nm_E := nm_X3_6 dh a n
theorem nl_X3 {dh : List nm_E} {a n : Nat} (h : dh.length = n) : (nm_X3 dh a n).length = n + 3 := nl_X3_6 h
theorem np_X3 {dh : List nm_E} {a n b : Nat} {e : nm_E} (hne : b ≠ a) (hb : b < n) (h : dh[b]? = some e) : (nm_X3 dh a n)[b]? = some e := np_X3_6 hne hb h
set_option maxRecDepth 100000 in
set_option maxHeartbeats 1000000 in
theorem cN_X3_p2 {dh d4 : List nm_E} {a n : Nat} (han : a < n) (hp : 0 < n) (l4 : d4.length = (n + 2)) (t4 : d4[a]? = some (.inr (3, [.ref n, .ref (n + 1), .null]))) (E4 : d4 = nm_X3_4 dh a n) : nm_J (md_X3_init, 1, 3, 601, n, nm_X3 dh a n) 22 [some (.ref a)] [] d4 2 400 := by
  refine nm_aload_n (q := 23) d_X3_init_22 rfl rfl ?_
  refine nm_sipush (q := 26) (v := 201) d_X3_init_23 rfl (by decide) ?_
  refine nm_newarray (nc := 2) (ns := 400) (q := 28) (n := (n + 2)) (N := 201) d_X3_init_26 rfl ac_0 (Or.inl ⟨rfl, rfl⟩) (by decide) (by decide) (Nat.le_of_ble_eq_true rfl) l4 rfl (Nat.succ_pos _) (Nat.le_of_ble_eq_true rfl) (Nat.le_of_ble_eq_true rfl) (fun d5 e5 => ?_)
  have l5 : d5.length = (n + 3) := nm_la e5 l4
  have t5 : d5[a]? = some (.inr (3, [.ref n, .ref (n + 1), .null])) := by rw [e5]; exact nm_l1 t4
  have E5 : d5 = nm_X3_5 dh a n := by rw [e5, E4]; rfl
  refine nm_putF (q := 31) (fs1 := [.ref n, .ref (n + 1), .ref (n + 2)]) d_X3_init_28 rfl ff_X3_18 t5 (Nat.le_of_ble_eq_true rfl) (fun _ => ⟨rfl, rfl⟩) rfl (fun d6 e6 => ?_)
  have l6 : d6.length = (n + 3) := nm_ls e6 l5
  have t6 : d6[a]? = some (.inr (3, [.ref n, .ref (n + 1), .ref (n + 2)])) := by rw [e6]; exact nm_l2 t5
  have E6 : d6 = nm_X3_6 dh a n := by rw [e6, E5]; rfl
  exact nm_ret (nc := 3) (ns := 601) d_X3_init_31 rfl rfl (by dsimp only; exact E6)
set_option maxRecDepth 100000 in
set_option maxHeartbeats 1000000 in
theorem cN_X3_p1 {dh d2 : List nm_E} {a n : Nat} (han : a < n) (hp : 0 < n) (l2 : d2.length = (n + 1)) (t2 : d2[a]? = some (.inr (3, [.ref n, .null, .null]))) (E2 : d2 = nm_X3_2 dh a n) : nm_J (md_X3_init, 1, 3, 601, n, nm_X3 dh a n) 13 [some (.ref a)] [] d2 1 200 := by
  refine nm_aload_n (q := 14) d_X3_init_13 rfl rfl ?_
  refine nm_sipush (q := 17) (v := 200) d_X3_init_14 rfl (by decide) ?_
  refine nm_newarray (nc := 1) (ns := 200) (q := 19) (n := (n + 1)) (N := 200) d_X3_init_17 rfl ac_0 (Or.inl ⟨rfl, rfl⟩) (by decide) (by decide) (Nat.le_of_ble_eq_true rfl) l2 rfl (Nat.succ_pos _) (Nat.le_of_ble_eq_true rfl) (Nat.le_of_ble_eq_true rfl) (fun d3 e3 => ?_)
  have l3 : d3.length = (n + 2) := nm_la e3 l2
  have t3 : d3[a]? = some (.inr (3, [.ref n, .null, .null])) := by rw [e3]; exact nm_l1 t2
  have E3 : d3 = nm_X3_3 dh a n := by rw [e3, E2]; rfl
  refine nm_putF (q := 22) (fs1 := [.ref n, .ref (n + 1), .null]) d_X3_init_19 rfl ff_X3_15 t3 (Nat.le_of_ble_eq_true rfl) (fun _ => ⟨rfl, rfl⟩) rfl (fun d4 e4 => ?_)
  have l4 : d4.length = (n + 2) := nm_ls e4 l3
  have t4 : d4[a]? = some (.inr (3, [.ref n, .ref (n + 1), .null])) := by rw [e4]; exact nm_l2 t3
  have E4 : d4 = nm_X3_4 dh a n := by rw [e4, E3]; rfl
  exact cN_X3_p2 han hp l4 t4 E4
set_option maxRecDepth 100000 in
set_option maxHeartbeats 1000000 in
theorem cN_X3 {dh : List nm_E} {a n : Nat} (hn : dh.length = n) (ha : dh[a]? = some (.inr (3, [.null, .null, .null])))  : nm_Ct yX3_init md_X3_init 1 3 601 [.ref a] dh (nm_X3 dh a n) := by
  have han : a < n := by rw [← hn]; exact (List.getElem?_eq_some_iff.mp ha).1
  have hp : 0 < n := by omega
  refine nm_enter (ls0 := [some (.ref a)]) 0 pn_X3 rfl rfl rfl (by decide) rfl hn ?_
  refine nm_aload_n (q := 1) d_X3_init_0 rfl rfl ?_
  refine nm_objinit (q := 4) d_X3_init_1 rfl ol_X3 oi_1 oi_2 (Nat.le_of_ble_eq_true rfl) (Nat.le_of_ble_eq_true rfl) ?_
  refine nm_aload_n (q := 5) d_X3_init_4 rfl rfl ?_
  refine nm_sipush (q := 8) (v := 200) d_X3_init_5 rfl (by decide) ?_
  refine nm_newarray (nc := 0) (ns := 0) (q := 10) (n := n) (N := 200) d_X3_init_8 rfl ac_0 (Or.inl ⟨rfl, rfl⟩) (by decide) (by decide) (Nat.le_of_ble_eq_true rfl) hn rfl hp (Nat.le_of_ble_eq_true rfl) (Nat.le_of_ble_eq_true rfl) (fun d1 e1 => ?_)
  have l1 : d1.length = (n + 1) := nm_la e1 hn
  have t1 : d1[a]? = some (.inr (3, [.null, .null, .null])) := by rw [e1]; exact nm_l1 ha
  have E1 : d1 = nm_X3_1 dh a n := by rw [e1]; rfl
  refine nm_putF (q := 13) (fs1 := [.ref n, .null, .null]) d_X3_init_10 rfl ff_X3_9 t1 (Nat.le_of_ble_eq_true rfl) (fun _ => ⟨rfl, rfl⟩) rfl (fun d2 e2 => ?_)
  have l2 : d2.length = (n + 1) := nm_ls e2 l1
  have t2 : d2[a]? = some (.inr (3, [.ref n, .null, .null])) := by rw [e2]; exact nm_l2 t1
  have E2 : d2 = nm_X3_2 dh a n := by rw [e2, E1]; rfl
  exact cN_X3_p1 han hp l2 t2 E2
