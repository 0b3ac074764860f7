theorem d_X2_init_0 : decode cX2_init 0 = .ok (.aload_n 0, 1) := by decide +kernel
theorem d_X2_init_1 : decode cX2_init 1 = .ok (.invokespecial 3, 3) := by decide +kernel
theorem ol_X2 : Cond.methodLink RX2 3 objectInit ∈ sm_TB := sm_w (List.mem_of_getElem? (i := 100) (by decide +kernel)) rfl
theorem d_X2_init_4 : decode cX2_init 4 = .ok (.aload_n 0, 1) := by decide +kernel
theorem d_X2_init_5 : decode cX2_init 5 = .ok (.new 9, 3) := by decide +kernel
theorem nw_X2_9 : nm_LN RX2 9 1 := ⟨_, rfl, sm_w (List.mem_of_getElem? (i := 101) (by decide +kernel)) rfl, sm_w (List.mem_of_getElem? (i := 102) (by decide +kernel)) rfl, sm_w (List.mem_of_getElem? (i := 61) (by decide +kernel)) rfl⟩
theorem d_X2_init_8 : decode cX2_init 8 = .ok (.dup, 1) := by decide +kernel
theorem d_X2_init_9 : decode cX2_init 9 = .ok (.invokespecial 11, 3) := by decide +kernel
theorem li_1 : nm_LI yX1_init md_X1_init := ⟨sm_w (List.mem_of_getElem? (i := 104) (by decide +kernel)) rfl, sm_w (List.mem_of_getElem? (i := 61) (by decide +kernel)) rfl, sm_w (List.mem_of_getElem? (i := 105) (by decide +kernel)) rfl, by decide, rfl, rfl, by decide +kernel⟩
theorem hl_X2_11 : (RX2, 11, yX1_init) ∈ nm_nest ∨ Cond.methodLink RX2 11 yX1_init ∈ sm_TB := (Or.inl (by decide +kernel))
theorem d_X2_init_12 : decode cX2_init 12 = .ok (.putfield 12, 3) := by decide +kernel
theorem ff_X2_12 : nm_FF RX2 12 2 0 := ⟨_, rfl, by decide, sm_w (List.mem_of_getElem? (i := 126) (by decide +kernel)) rfl, rfl, rfl⟩
theorem d_X2_init_15 : decode cX2_init 15 = .ok (.return_, 1) := by decide +kernel
def nm_X2_1 (dh : List nm_E) (a n : Nat) : List nm_E := dh ++ ([.inr (1, [.null, .null, .int 0])] : List nm_E)
theorem nl_X2_1 {dh : List nm_E} {a n : Nat} (h : dh.length = n) : (nm_X2_1 dh a n).length = n + 1 := by unfold nm_X2_1; rw [List.length_append, h]; rfl
theorem np_X2_1 {dh : List nm_E} {a n b : Nat} {e : nm_E} (hne : b ≠ a) (hb : b < n) (h : dh[b]? = some e) : (nm_X2_1 dh a n)[b]? = some e := nm_l5 h
def nm_X2_2 (dh : List nm_E) (a n : Nat) : List nm_E := nm_X1 (nm_X2_1 dh a n) n (n + 1)
theorem nl_X2_2 {dh : List nm_E} {a n : Nat} (h : dh.length = n) : (nm_X2_2 dh a n).length = n + 3 := nl_X1 (nl_X2_1 h)
theorem np_X2_2 {dh : List nm_E} {a n b : Nat} {e : nm_E} (hne : b ≠ a) (hb : b < n) (h : dh[b]? = some e) : (nm_X2_2 dh a n)[b]? = some e := np_X1 (by omega) (by omega) (np_X2_1 hne hb h)
def nm_X2_3 (dh : List nm_E) (a n : Nat) : List nm_E := (nm_X2_2 dh a n).set a (.inr (2, [.ref n, .int 0, .int 0, .int 0]) : nm_E)
theorem nl_X2_3 {dh : List nm_E} {a n : Nat} (h : dh.length = n) : (nm_X2_3 dh a n).length = n + 3 := by unfold nm_X2_3; rw [List.length_set]; exact nl_X2_2 h
theorem np_X2_3 {dh : List nm_E} {a n b : Nat} {e : nm_E} (hne : b ≠ a) (hb : b < n) (h : dh[b]? = some e) : (nm_X2_3 dh a n)[b]? = some e := nm_l4 (by omega) (np_X2_2 hne hb h)
abbrev nm_X2 (dh : List nm_E) (a n : Nat) : List nm_E := nm_X2_3 dh a n
theorem nl_X2 {dh : List nm_E} {a n : Nat} (h : dh.length = n) : (nm_X2 dh a n).length = n + 3 := nl_X2_3 h
theorem np_X2 {dh : List nm_E} {a n b : Nat} {e : nm_E} (hne : b ≠ a) (hb : b < n) (h : dh[b]? = some e) : (nm_X2 dh a n)[b]? = some e := np_X2_3 hne hb h
set_option maxRecDepth 100000 in
set_option maxHeartbeats 1000000 in
theorem cN_X2 {dh : List nm_E} {a n : Nat} (hn : dh.length = n) (ha : dh[a]? = some (.inr (2, [.null, .int 0, .int 0, .int 0])))  : nm_Ct yX2_init md_X2_init 3 3 403 [.ref a] dh (nm_X2 dh a n) := by
  have han : a < n := by rw [← hn]; exact (List.getElem?_eq_some_iff.mp ha).1
  have hp : 0 < n := by omega
  refine nm_enter (ls0 := [some (.ref a)]) 0 pn_X2 rfl rfl rfl (by decide) rfl hn ?_
  refine nm_aload_n (q := 1) d_X2_init_0 rfl rfl ?_
  refine nm_objinit (q := 4) d_X2_init_1 rfl ol_X2 oi_1 oi_2 (Nat.le_of_ble_eq_true rfl) (Nat.le_of_ble_eq_true rfl) ?_
  refine nm_aload_n (q := 5) d_X2_init_4 rfl rfl ?_
  refine nm_new (nc := 0) (ns := 0) (q := 8) (n := n) (N := 3) [.null, .null, .int 0] d_X2_init_5 rfl nw_X2_9 (fun r h => by cases h; rfl) fd_1 (fun _ => rfl) hn rfl hp (Nat.le_of_ble_eq_true rfl) (Nat.le_of_ble_eq_true rfl) (fun d1 e1 => ?_)
  have l1 : d1.length = (n + 1) := nm_la e1 hn
  have t1 : d1[a]? = some (.inr (2, [.null, .int 0, .int 0, .int 0])) := by rw [e1]; exact nm_l1 ha
  have y1 : d1[n]? = some (.inr (1, [.null, .null, .int 0])) := by rw [e1]; exact nm_l3 hn
  have E1 : d1 = nm_X2_1 dh a n := by rw [e1]; rfl
  refine nm_dup (q := 9) d_X2_init_8 rfl rfl ?_
  refine nm_callI (nc := 1) (ns := 3) (q := 12) (n := (n + 1)) (d' := 1) (mc' := 2) (ms' := 400) d_X2_init_9 rfl hl_X2_11 li_1 (Nat.le_of_ble_eq_true rfl) (Nat.le_of_ble_eq_true rfl) l1 rfl (Nat.succ_pos _) (Nat.le_of_ble_eq_true rfl) (Nat.le_of_ble_eq_true rfl) (cN_X1 l1 y1) (fun d2 e2 => ?_)
  have l2 : d2.length = (n + 3) := by rw [e2]; exact nl_X1 l1
  have t2 : d2[a]? = some (.inr (2, [.null, .int 0, .int 0, .int 0])) := by rw [e2]; exact np_X1 (nm_o2 0 han) (nm_o3 1 han) t1
  have E2 : d2 = nm_X2_2 dh a n := by rw [e2, E1]; rfl
  refine nm_putF (q := 15) (fs1 := [.ref n, .int 0, .int 0, .int 0]) d_X2_init_12 rfl ff_X2_12 t2 (Nat.le_of_ble_eq_true rfl) (fun _ => ⟨rfl, rfl⟩) rfl (fun d3 e3 => ?_)
  have l3 : d3.length = (n + 3) := nm_ls e3 l2
  have t3 : d3[a]? = some (.inr (2, [.ref n, .int 0, .int 0, .int 0])) := by rw [e3]; exact nm_l2 t2
  have E3 : d3 = nm_X2_3 dh a n := by rw [e3, E2]; rfl
  exact nm_ret (nc := 3) (ns := 403) d_X2_init_15 rfl rfl (by dsimp only; exact E3)
