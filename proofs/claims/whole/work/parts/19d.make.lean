theorem d_X5_init_0 : decode cX5_init 0 = .ok (.aload_n 0, 1) := by decide +kernel
theorem d_X5_init_1 : decode cX5_init 1 = .ok (.invokespecial 3, 3) := by decide +kernel
theorem ol_X5 : Cond.methodLink RX5 3 objectInit ∈ sm_TB := sm_w (List.mem_of_getElem? (i := 341) (by decide +kernel)) rfl
theorem d_X5_init_4 : decode cX5_init 4 = .ok (.aload_n 0, 1) := by decide +kernel
theorem d_X5_init_5 : decode cX5_init 5 = .ok (.sipush 200, 3) := by decide +kernel
theorem d_X5_init_8 : decode cX5_init 8 = .ok (.newarray .boolean, 2) := by decide +kernel
theorem d_X5_init_10 : decode cX5_init 10 = .ok (.putfield 9, 3) := by decide +kernel
theorem ff_X5_9 : nm_FF RX5 9 5 0 := ⟨_, rfl, by decide, sm_w (List.mem_of_getElem? (i := 342) (by decide +kernel)) rfl, rfl, rfl⟩
theorem d_X5_init_13 : decode cX5_init 13 = .ok (.return_, 1) := by decide +kernel
def nm_X5_1 (dh : List nm_E) (a n : Nat) : List nm_E := dh ++ ([.inl (2, 200, fun _ => 0, fun _ => 0, [])] : List nm_E)
theorem nl_X5_1 {dh : List nm_E} {a n : Nat} (h : dh.length = n) : (nm_X5_1 dh a n).length = n + 1 := by unfold nm_X5_1; rw [List.length_append, h]; rfl
theorem np_X5_1 {dh : List nm_E} {a n b : Nat} {e : nm_E} (hne : b ≠ a) (hb : b < n) (h : dh[b]? = some e) : (nm_X5_1 dh a n)[b]? = some e := nm_l5 h
def nm_X5_2 (dh : List nm_E) (a n : Nat) : List nm_E := (nm_X5_1 dh a n).set a (.inr (5, [.ref n]) : nm_E)
theorem nl_X5_2 {dh : List nm_E} {a n : Nat} (h : dh.length = n) : (nm_X5_2 dh a n).length = n + 1 := by unfold nm_X5_2; rw [List.length_set]; exact nl_X5_1 h
theorem np_X5_2 {dh : List nm_E} {a n b : Nat} {e : nm_E} (hne : b ≠ a) (hb : b < n) (h : dh[b]? = some e) : (nm_X5_2 dh a n)[b]? = some e := nm_l4 (by omega) (np_X5_1 hne hb h)
abbrev nm_X5 (dh : List nm_E) (a n : Nat) : List nm_E := nm_X5_2 dh a n
theorem nl_X5 {dh : List nm_E} {a n : Nat} (h : dh.length = n) : (nm_X5 dh a n).length = n + 1 := nl_X5_2 h
theorem np_X5 {dh : List nm_E} {a n b : Nat} {e : nm_E} (hne : b ≠ a) (hb : b < n) (h : dh[b]? = some e) : (nm_X5 dh a n)[b]? = some e := np_X5_2 hne hb h
set_option maxRecDepth 100000 in
set_option maxHeartbeats 1000000 in
theorem cN_X5 {dh : List nm_E} {a n : Nat} (hn : dh.length = n) (ha : dh[a]? = some (.inr (5, [.null])))  : nm_Ct yX5_init md_X5_init 1 1 200 [.ref a] dh (nm_X5 dh a n) := by
  have han : a < n := by rw [← hn]; exact (List.getElem?_eq_some_iff.mp ha).1
  have hp : 0 < n := by omega
  refine nm_enter (ls0 := [some (.ref a)]) 0 pn_X5 rfl rfl rfl (by decide) rfl hn ?_
  refine nm_aload_n (q := 1) d_X5_init_0 rfl rfl ?_
  refine nm_objinit (q := 4) d_X5_init_1 rfl ol_X5 oi_1 oi_2 (Nat.le_of_ble_eq_true rfl) (Nat.le_of_ble_eq_true rfl) ?_
  refine nm_aload_n (q := 5) d_X5_init_4 rfl rfl ?_
  refine nm_sipush (q := 8) (v := 200) d_X5_init_5 rfl (by decide) ?_
  refine nm_newarray (nc := 0) (ns := 0) (q := 10) (n := n) (N := 200) d_X5_init_8 rfl ac_2 (Or.inr (Or.inr (Or.inl ⟨rfl, rfl⟩))) (by decide) (by decide) (Nat.le_of_ble_eq_true rfl) hn rfl hp (Nat.le_of_ble_eq_true rfl) (Nat.le_of_ble_eq_true rfl) (fun d1 e1 => ?_)
  have l1 : d1.length = (n + 1) := nm_la e1 hn
  have t1 : d1[a]? = some (.inr (5, [.null])) := by rw [e1]; exact nm_l1 ha
  have E1 : d1 = nm_X5_1 dh a n := by rw [e1]; rfl
  refine nm_putF (q := 13) (fs1 := [.ref n]) d_X5_init_10 rfl ff_X5_9 t1 (Nat.le_of_ble_eq_true rfl) (fun _ => ⟨rfl, rfl⟩) rfl (fun d2 e2 => ?_)
  have l2 : d2.length = (n + 1) := nm_ls e2 l1
  have t2 : d2[a]? = some (.inr (5, [.ref n])) := by rw [e2]; exact nm_l2 t1
  have E2 : d2 = nm_X5_2 dh a n := by rw [e2, E1]; rfl
  exact nm_ret (nc := 1) (ns := 200) d_X5_init_13 rfl rfl (by dsimp only; exact E2)
theorem d_X6_init_0 : decode cX6_init 0 = .ok (.aload_n 0, 1) := by decide +kernel
theorem d_X6_init_1 : decode cX6_init 1 = .ok (.invokespecial 3, 3) := by decide +kernel
theorem ol_X6 : Cond.methodLink RX6 3 objectInit ∈ sm_TB := sm_w (List.mem_of_getElem? (i := 260) (by decide +kernel)) rfl
theorem d_X6_init_4 : decode cX6_init 4 = .ok (.aload_n 0, 1) := by decide +kernel
theorem d_X6_init_5 : decode cX6_init 5 = .ok (.bipush 12, 2) := by decide +kernel
theorem d_X6_init_7 : decode cX6_init 7 = .ok (.anewarray 9, 3) := by decide +kernel
theorem al_X6_9 : Cond.classLink RX6 9 "UniversalCycles$Row" ∈ sm_TB := sm_w (List.mem_of_getElem? (i := 261) (by decide +kernel)) rfl
theorem d_X6_init_10 : decode cX6_init 10 = .ok (.putfield 11, 3) := by decide +kernel
theorem ff_X6_11 : nm_FF RX6 11 6 0 := ⟨_, rfl, by decide, sm_w (List.mem_of_getElem? (i := 264) (by decide +kernel)) rfl, rfl, rfl⟩
theorem d_X6_init_13 : decode cX6_init 13 = .ok (.iconst 0, 1) := by decide +kernel
theorem d_X6_init_14 : decode cX6_init 14 = .ok (.istore_n 1, 1) := by decide +kernel
theorem d_X6_init_15 : decode cX6_init 15 = .ok (.iload_n 1, 1) := by decide +kernel
theorem d_X6_init_16 : decode cX6_init 16 = .ok (.bipush 12, 2) := by decide +kernel
theorem d_X6_init_18 : decode cX6_init 18 = .ok (.if_icmp .ge 22, 3) := by decide +kernel
theorem d_X6_init_21 : decode cX6_init 21 = .ok (.aload_n 0, 1) := by decide +kernel
theorem d_X6_init_22 : decode cX6_init 22 = .ok (.getfield 11, 3) := by decide +kernel
theorem fg_X6_11 : sm_FL RX6 11 6 0 := ⟨_, rfl, by decide, sm_w (List.mem_of_getElem? (i := 264) (by decide +kernel)) rfl⟩
theorem d_X6_init_25 : decode cX6_init 25 = .ok (.iload_n 1, 1) := by decide +kernel
theorem d_X6_init_26 : decode cX6_init 26 = .ok (.new 9, 3) := by decide +kernel
theorem nw_X6_9 : nm_LN RX6 9 7 := ⟨_, rfl, sm_w (List.mem_of_getElem? (i := 261) (by decide +kernel)) rfl, sm_w (List.mem_of_getElem? (i := 235) (by decide +kernel)) rfl, sm_w (List.mem_of_getElem? (i := 64) (by decide +kernel)) rfl⟩
theorem d_X6_init_29 : decode cX6_init 29 = .ok (.dup, 1) := by decide +kernel
theorem d_X6_init_30 : decode cX6_init 30 = .ok (.invokespecial 17, 3) := by decide +kernel
theorem li_7 : nm_LI yX7_init md_X7_init := ⟨sm_w (List.mem_of_getElem? (i := 237) (by decide +kernel)) rfl, sm_w (List.mem_of_getElem? (i := 64) (by decide +kernel)) rfl, sm_w (List.mem_of_getElem? (i := 238) (by decide +kernel)) rfl, by decide, rfl, rfl, by decide +kernel⟩
theorem hl_X6_17 : (RX6, 17, yX7_init) ∈ nm_nest ∨ Cond.methodLink RX6 17 yX7_init ∈ sm_TB := (Or.inl (by decide +kernel))
theorem d_X6_init_33 : decode cX6_init 33 = .ok (.aastore, 1) := by decide +kernel
theorem d_X6_init_34 : decode cX6_init 34 = .ok (.iinc 1 1, 3) := by decide +kernel
theorem d_X6_init_37 : decode cX6_init 37 = .ok (.goto (-22), 3) := by decide +kernel
theorem d_X6_init_40 : decode cX6_init 40 = .ok (.return_, 1) := by decide +kernel
def nm_X6_1 (dh : List nm_E) (a n : Nat) : List nm_E := dh ++ ([.inl (4, 12, fun _ => 0, fun _ => 0, [none, none, none, none, none, none, none, none, none, none, none, none])] : List nm_E)
theorem nl_X6_1 {dh : List nm_E} {a n : Nat} (h : dh.length = n) : (nm_X6_1 dh a n).length = n + 1 := by unfold nm_X6_1; rw [List.length_append, h]; rfl
theorem np_X6_1 {dh : List nm_E} {a n b : Nat} {e : nm_E} (hne : b ≠ a) (hb : b < n) (h : dh[b]? = some e) : (nm_X6_1 dh a n)[b]? = some e := nm_l5 h
def nm_X6_2 (dh : List nm_E) (a n : Nat) : List nm_E := (nm_X6_1 dh a n).set a (.inr (6, [.ref n, .int 0, .int 0]) : nm_E)
theorem nl_X6_2 {dh : List nm_E} {a n : Nat} (h : dh.length = n) : (nm_X6_2 dh a n).length = n + 1 := by unfold nm_X6_2; rw [List.length_set]; exact nl_X6_1 h
theorem np_X6_2 {dh : List nm_E} {a n b : Nat} {e : nm_E} (hne : b ≠ a) (hb : b < n) (h : dh[b]? = some e) : (nm_X6_2 dh a n)[b]? = some e := nm_l4 (by omega) (np_X6_1 hne hb h)
def nm_X6_3 (dh : List nm_E) (a n : Nat) : List nm_E := (nm_X6_2 dh a n) ++ ([.inr (7, [.null, .int 0])] : List nm_E)
theorem nl_X6_3 {dh : List nm_E} {a n : Nat} (h : dh.length = n) : (nm_X6_3 dh a n).length = n + 2 := by unfold nm_X6_3; rw [List.length_append, nl_X6_2 h]; rfl
theorem np_X6_3 {dh : List nm_E} {a n b : Nat} {e : nm_E} (hne : b ≠ a) (hb : b < n) (h : dh[b]? = some e) : (nm_X6_3 dh a n)[b]? = some e := nm_l5 (np_X6_2 hne hb h)
def nm_X6_4 (dh : List nm_E) (a n : Nat) : List nm_E := nm_X7 (nm_X6_3 dh a n) (n + 1) (n + 2)
theorem nl_X6_4 {dh : List nm_E} {a n : Nat} (h : dh.length = n) : (nm_X6_4 dh a n).length = n + 3 := nl_X7 (nl_X6_3 h)
theorem np_X6_4 {dh : List nm_E} {a n b : Nat} {e : nm_E} (hne : b ≠ a) (hb : b < n) (h : dh[b]? = some e) : (nm_X6_4 dh a n)[b]? = some e := np_X7 (by omega) (by omega) (np_X6_3 hne hb h)
def nm_X6_5 (dh : List nm_E) (a n : Nat) : List nm_E := (nm_X6_4 dh a n).set n (.inl (4, 12, fun _ => 0, fun _ => 0, [some (n + 1), none, none, none, none, none, none, none, none, none, none, none]) : nm_E)
theorem nl_X6_5 {dh : List nm_E} {a n : Nat} (h : dh.length = n) : (nm_X6_5 dh a n).length = n + 3 := by unfold nm_X6_5; rw [List.length_set]; exact nl_X6_4 h
theorem np_X6_5 {dh : List nm_E} {a n b : Nat} {e : nm_E} (hne : b ≠ a) (hb : b < n) (h : dh[b]? = some e) : (nm_X6_5 dh a n)[b]? = some e := nm_l4 (by omega) (np_X6_4 hne hb h)
def nm_X6_6 (dh : List nm_E) (a n : Nat) : List nm_E := (nm_X6_5 dh a n) ++ ([.inr (7, [.null, .int 0])] : List nm_E)
theorem nl_X6_6 {dh : List nm_E} {a n : Nat} (h : dh.length = n) : (nm_X6_6 dh a n).length = n + 4 := by unfold nm_X6_6; rw [List.length_append, nl_X6_5 h]; rfl
theorem np_X6_6 {dh : List nm_E} {a n b : Nat} {e : nm_E} (hne : b ≠ a) (hb : b < n) (h : dh[b]? = some e) : (nm_X6_6 dh a n)[b]? = some e := nm_l5 (np_X6_5 hne hb h)
def nm_X6_7 (dh : List nm_E) (a n : Nat) : List nm_E := nm_X7 (nm_X6_6 dh a n) (n + 3) (n + 4)
theorem nl_X6_7 {dh : List nm_E} {a n : Nat} (h : dh.length = n) : (nm_X6_7 dh a n).length = n + 5 := nl_X7 (nl_X6_6 h)
theorem np_X6_7 {dh : List nm_E} {a n b : Nat} {e : nm_E} (hne : b ≠ a) (hb : b < n) (h : dh[b]? = some e) : (nm_X6_7 dh a n)[b]? = some e := np_X7 (by omega) (by omega) (np_X6_6 hne hb h)
def nm_X6_8 (dh : List nm_E) (a n : Nat) : List nm_E := (nm_X6_7 dh a n).set n (.inl (4, 12, fun _ => 0, fun _ => 0, [some (n + 1), some (n + 3), none, none, none, none, none, none, none, none, none, none]) : nm_E)
theorem nl_X6_8 {dh : List nm_E} {a n : Nat} (h : dh.length = n) : (nm_X6_8 dh a n).length = n + 5 := by unfold nm_X6_8; rw [List.length_set]; exact nl_X6_7 h
theorem np_X6_8 {dh : List nm_E} {a n b : Nat} {e : nm_E} (hne : b ≠ a) (hb : b < n) (h : dh[b]? = some e) : (nm_X6_8 dh a n)[b]? = some e := nm_l4 (by omega) (np_X6_7 hne hb h)
def nm_X6_9 (dh : List nm_E) (a n : Nat) : List nm_E := (nm_X6_8 dh a n) ++ ([.inr (7, [.null, .int 0])] : List nm_E)
theorem nl_X6_9 {dh : List nm_E} {a n : Nat} (h : dh.length = n) : (nm_X6_9 dh a n).length = n + 6 := by unfold nm_X6_9; rw [List.length_append, nl_X6_8 h]; rfl
theorem np_X6_9 {dh : List nm_E} {a n b : Nat} {e : nm_E} (hne : b ≠ a) (hb : b < n) (h : dh[b]? = some e) : (nm_X6_9 dh a n)[b]? = some e := nm_l5 (np_X6_8 hne hb h)
def nm_X6_10 (dh : List nm_E) (a n : Nat) : List nm_E := nm_X7 (nm_X6_9 dh a n) (n + 5) (n + 6)
theorem nl_X6_10 {dh : List nm_E} {a n : Nat} (h : dh.length = n) : (nm_X6_10 dh a n).length = n + 7 := nl_X7 (nl_X6_9 h)
theorem np_X6_10 {dh : List nm_E} {a n b : Nat} {e : nm_E} (hne : b ≠ a) (hb : b < n) (h : dh[b]? = some e) : (nm_X6_10 dh a n)[b]? = some e := np_X7 (by omega) (by omega) (np_X6_9 hne hb h)
def nm_X6_11 (dh : List nm_E) (a n : Nat) : List nm_E := (nm_X6_10 dh a n).set n (.inl (4, 12, fun _ => 0, fun _ => 0, [some (n + 1), some (n + 3), some (n + 5), none, none, none, none, none, none, none, none, none]) : nm_E)
theorem nl_X6_11 {dh : List nm_E} {a n : Nat} (h : dh.length = n) : (nm_X6_11 dh a n).length = n + 7 := by unfold nm_X6_11; rw [List.length_set]; exact nl_X6_10 h
theorem np_X6_11 {dh : List nm_E} {a n b : Nat} {e : nm_E} (hne : b ≠ a) (hb : b < n) (h : dh[b]? = some e) : (nm_X6_11 dh a n)[b]? = some e := nm_l4 (by omega) (np_X6_10 hne hb h)
def nm_X6_12 (dh : List nm_E) (a n : Nat) : List nm_E := (nm_X6_11 dh a n) ++ ([.inr (7, [.null, .int 0])] : List nm_E)
theorem nl_X6_12 {dh : List nm_E} {a n : Nat} (h : dh.length = n) : (nm_X6_12 dh a n).length = n + 8 := by unfold nm_X6_12; rw [List.length_append, nl_X6_11 h]; rfl
theorem np_X6_12 {dh : List nm_E} {a n b : Nat} {e : nm_E} (hne : b ≠ a) (hb : b < n) (h : dh[b]? = some e) : (nm_X6_12 dh a n)[b]? = some e := nm_l5 (np_X6_11 hne hb h)
def nm_X6_13 (dh : List nm_E) (a n : Nat) : List nm_E := nm_X7 (nm_X6_12 dh a n) (n + 7) (n + 8)
theorem nl_X6_13 {dh : List nm_E} {a n : Nat} (h : dh.length = n) : (nm_X6_13 dh a n).length = n + 9 := nl_X7 (nl_X6_12 h)
theorem np_X6_13 {dh : List nm_E} {a n b : Nat} {e : nm_E} (hne : b ≠ a) (hb : b < n) (h : dh[b]? = some e) : (nm_X6_13 dh a n)[b]? = some e := np_X7 (by omega) (by omega) (np_X6_12 hne hb h)
def nm_X6_14 (dh : List nm_E) (a n : Nat) : List nm_E := (nm_X6_13 dh a n).set n (.inl (4, 12, fun _ => 0, fun _ => 0, [some (n + 1), some (n + 3), some (n + 5), some (n + 7), none, none, none, none, none, none, none, none]) : nm_E)
theorem nl_X6_14 {dh : List nm_E} {a n : Nat} (h : dh.length = n) : (nm_X6_14 dh a n).length = n + 9 := by unfold nm_X6_14; rw [List.length_set]; exact nl_X6_13 h
theorem np_X6_14 {dh : List nm_E} {a n b : Nat} {e : nm_E} (hne : b ≠ a) (hb : b < n) (h : dh[b]? = some e) : (nm_X6_14 dh a n)[b]? = some e := nm_l4 (by omega) (np_X6_13 hne hb h)
def nm_X6_15 (dh : List nm_E) (a n : Nat) : List nm_E := (nm_X6_14 dh a n) ++ ([.inr (7, [.null, .int 0])] : List nm_E)
theorem nl_X6_15 {dh : List nm_E} {a n : Nat} (h : dh.length = n) : (nm_X6_15 dh a n).length = n + 10 := by unfold nm_X6_15; rw [List.length_append, nl_X6_14 h]; rfl
theorem np_X6_15 {dh : List nm_E} {a n b : Nat} {e : nm_E} (hne : b ≠ a) (hb : b < n) (h : dh[b]? = some e) : (nm_X6_15 dh a n)[b]? = some e := nm_l5 (np_X6_14 hne hb h)
def nm_X6_16 (dh : List nm_E) (a n : Nat) : List nm_E := nm_X7 (nm_X6_15 dh a n) (n + 9) (n + 10)
theorem nl_X6_16 {dh : List nm_E} {a n : Nat} (h : dh.length = n) : (nm_X6_16 dh a n).length = n + 11 := nl_X7 (nl_X6_15 h)
theorem np_X6_16 {dh : List nm_E} {a n b : Nat} {e : nm_E} (hne : b ≠ a) (hb : b < n) (h : dh[b]? = some e) : (nm_X6_16 dh a n)[b]? = some e := np_X7 (by omega) (by omega) (np_X6_15 hne hb h)
def nm_X6_17 (dh : List nm_E) (a n : Nat) : List nm_E := (nm_X6_16 dh a n).set n (.inl (4, 12, fun _ => 0, fun _ => 0, [some (n + 1), some (n + 3), some (n + 5), some (n + 7), some (n + 9), none, none, none, none, none, none, none]) : nm_E)
theorem nl_X6_17 {dh : List nm_E} {a n : Nat} (h : dh.length = n) : (nm_X6_17 dh a n).length = n + 11 := by unfold nm_X6_17; rw [List.length_set]; exact nl_X6_16 h
theorem np_X6_17 {dh : List nm_E} {a n b : Nat} {e : nm_E} (hne : b ≠ a) (hb : b < n) (h : dh[b]? = some e) : (nm_X6_17 dh a n)[b]? = some e := nm_l4 (by omega) (np_X6_16 hne hb h)
def nm_X6_18 (dh : List nm_E) (a n : Nat) : List nm_E := (nm_X6_17 dh a n) ++ ([.inr (7, [.null, .int 0])] : List nm_E)
theorem nl_X6_18 {dh : List nm_E} {a n : Nat} (h : dh.length = n) : (nm_X6_18 dh a n).length = n + 12 := by unfold nm_X6_18; rw [List.length_append, nl_X6_17 h]; rfl
theorem np_X6_18 {dh : List nm_E} {a n b : Nat} {e : nm_E} (hne : b ≠ a) (hb : b < n) (h : dh[b]? = some e) : (nm_X6_18 dh a n)[b]? = some e := nm_l5 (np_X6_17 hne hb h)
def nm_X6_19 (dh : List nm_E) (a n : Nat) : List nm_E := nm_X7 (nm_X6_18 dh a n) (n + 11) (n + 12)
theorem nl_X6_19 {dh : List nm_E} {a n : Nat} (h : dh.length = n) : (nm_X6_19 dh a n).length = n + 13 := nl_X7 (nl_X6_18 h)
theorem np_X6_19 {dh : List nm_E} {a n b : Nat} {e : nm_E} (hne : b ≠ a) (hb : b < n) (h : dh[b]? = some e) : (nm_X6_19 dh a n)[b]? = some e := np_X7 (by omega) (by omega) (np_X6_18 hne hb h)
def nm_X6_20 (dh : List nm_E) (a n : Nat) : List nm_E := (nm_X6_19 dh a n).set n (.inl (4, 12, fun _ => 0, fun _ => 0, [some (n + 1), some (n + 3), some (n + 5), some (n + 7), some (n + 9), some (n + 11), none, none, none, none, none, none]) : nm_E)
theorem nl_X6_20 {dh : List nm_E} {a n : Nat} (h : dh.length = n) : (nm_X6_20 dh a n).length = n + 13 := by unfold nm_X6_20; rw [List.length_set]; exact nl_X6_19 h
theorem np_X6_20 {dh : List nm_E} {a n b : Nat} {e : nm_E} (hne : b ≠ a) (hb : b < n) (h : dh[b]? = some e) : (nm_X6_20 dh a n)[b]? = some e := nm_l4 (by omega) (np_X6_19 hne hb h)
def nm_X6_21 (dh : List nm_E) (a n : Nat) : List nm_E := (nm_X6_20 dh a n) ++ ([.inr (7, [.null, .int 0])] : List nm_E)
theorem nl_X6_21 {dh : List nm_E} {a n : Nat} (h : dh.length = n) : (nm_X6_21 dh a n).length = n + 14 := by unfold nm_X6_21; rw [List.length_append, nl_X6_20 h]; rfl
theorem np_X6_21 {dh : List nm_E} {a n b : Nat} {e : nm_E} (hne : b ≠ a) (hb : b < n) (h : dh[b]? = some e) : (nm_X6_21 dh a n)[b]? = some e := nm_l5 (np_X6_20 hne hb h)
def nm_X6_22 (dh : List nm_E) (a n : Nat) : List nm_E := nm_X7 (nm_X6_21 dh a n) (n + 13) (n + 14)
theorem nl_X6_22 {dh : List nm_E} {a n : Nat} (h : dh.length = n) : (nm_X6_22 dh a n).length = n + 15 := nl_X7 (nl_X6_21 h)
theorem np_X6_22 {dh : List nm_E} {a n b : Nat} {e : nm_E} (hne : b ≠ a) (hb : b < n) (h : dh[b]? = some e) : (nm_X6_22 dh a n)[b]? = some e := np_X7 (by omega) (by omega) (np_X6_21 hne hb h)
def nm_X6_23 (dh : List nm_E) (a n : Nat) : List nm_E := (nm_X6_22 dh a n).set n (.inl (4, 12, fun _ => 0, fun _ => 0, [some (n + 1), some (n + 3), some (n + 5), some (n + 7), some (n + 9), some (n + 11), some (n + 13), none, none, none, none, none]) : nm_E)
theorem nl_X6_23 {dh : List nm_E} {a n : Nat} (h : dh.length = n) : (nm_X6_23 dh a n).length = n + 15 := by unfold nm_X6_23; rw [List.length_set]; exact nl_X6_22 h
theorem np_X6_23 {dh : List nm_E} {a n b : Nat} {e : nm_E} (hne : b ≠ a) (hb : b < n) (h : dh[b]? = some e) : (nm_X6_23 dh a n)[b]? = some e := nm_l4 (by omega) (np_X6_22 hne hb h)
def nm_X6_24 (dh : List nm_E) (a n : Nat) : List nm_E := (nm_X6_23 dh a n) ++ ([.inr (7, [.null, .int 0])] : List nm_E)
theorem nl_X6_24 {dh : List nm_E} {a n : Nat} (h : dh.length = n) : (nm_X6_24 dh a n).length = n + 16 := by unfold nm_X6_24; rw [List.length_append, nl_X6_23 h]; rfl
theorem np_X6_24 {dh : List nm_E} {a n b : Nat} {e : nm_E} (hne : b ≠ a) (hb : b < n) (h : dh[b]? = some e) : (nm_X6_24 dh a n)[b]? = some e := nm_l5 (np_X6_23 hne hb h)
def nm_X6_25 (dh : List nm_E) (a n : Nat) : List nm_E := nm_X7 (nm_X6_24 dh a n) (n + 15) (n + 16)
theorem nl_X6_25 {dh : List nm_E} {a n : Nat} (h : dh.length = n) : (nm_X6_25 dh a n).length = n + 17 := nl_X7 (nl_X6_24 h)
theorem np_X6_25 {dh : List nm_E} {a n b : Nat} {e : nm_E} (hne : b ≠ a) (hb : b < n) (h : dh[b]? = some e) : (nm_X6_25 dh a n)[b]? = some e := np_X7 (by omega) (by omega) (np_X6_24 hne hb h)
def nm_X6_26 (dh : List nm_E) (a n : Nat) : List nm_E := (nm_X6_25 dh a n).set n (.inl (4, 12, fun _ => 0, fun _ => 0, [some (n + 1), some (n + 3), some (n + 5), some (n + 7), some (n + 9), some (n + 11), some (n + 13), some (n + 15), none, none, none, none]) : nm_E)
theorem nl_X6_26 {dh : List nm_E} {a n : Nat} (h : dh.length = n) : (nm_X6_26 dh a n).length = n + 17 := by unfold nm_X6_26; rw [List.length_set]; exact nl_X6_25 h
theorem np_X6_26 {dh : List nm_E} {a n b : Nat} {e : nm_E} (hne : b ≠ a) (hb : b < n) (h : dh[b]? = some e) : (nm_X6_26 dh a n)[b]? = some e := nm_l4 (by omega) (np_X6_25 hne hb h)
def nm_X6_27 (dh : List nm_E) (a n : Nat) : List nm_E := (nm_X6_26 dh a n) ++ ([.inr (7, [.null, .int 0])] : List nm_E)
theorem nl_X6_27 {dh : List nm_E} {a n : Nat} (h : dh.length = n) : (nm_X6_27 dh a n).length = n + 18 := by unfold nm_X6_27; rw [List.length_append, nl_X6_26 h]; rfl
theorem np_X6_27 {dh : List nm_E} {a n b : Nat} {e : nm_E} (hne : b ≠ a) (hb : b < n) (h : dh[b]? = some e) : (nm_X6_27 dh a n)[b]? = some e := nm_l5 (np_X6_26 hne hb h)
def nm_X6_28 (dh : List nm_E) (a n : Nat) : List nm_E := nm_X7 (nm_X6_27 dh a n) (n + 17) (n + 18)
theorem nl_X6_28 {dh : List nm_E} {a n : Nat} (h : dh.length = n) : (nm_X6_28 dh a n).length = n + 19 := nl_X7 (nl_X6_27 h)
theorem np_X6_28 {dh : List nm_E} {a n b : Nat} {e : nm_E} (hne : b ≠ a) (hb : b < n) (h : dh[b]? = some e) : (nm_X6_28 dh a n)[b]? = some e := np_X7 (by omega) (by omega) (np_X6_27 hne hb h)
def nm_X6_29 (dh : List nm_E) (a n : Nat) : List nm_E := (nm_X6_28 dh a n).set n (.inl (4, 12, fun _ => 0, fun _ => 0, [some (n + 1), some (n + 3), some (n + 5), some (n + 7), some (n + 9), some (n + 11), some (n + 13), some (n + 15), some (n + 17), none, none, none]) : nm_E)
theorem nl_X6_29 {dh : List nm_E} {a n : Nat} (h : dh.length = n) : (nm_X6_29 dh a n).length = n + 19 := by unfold nm_X6_29; rw [List.length_set]; exact nl_X6_28 h
theorem np_X6_29 {dh : List nm_E} {a n b : Nat} {e : nm_E} (hne : b ≠ a) (hb : b < n) (h : dh[b]? = some e) : (nm_X6_29 dh a n)[b]? = some e := nm_l4 (by omega) (np_X6_28 hne hb h)
def nm_X6_30 (dh : List nm_E) (a n : Nat) : List nm_E := (nm_X6_29 dh a n) ++ ([.inr (7, [.null, .int 0])] : List nm_E)
theorem nl_X6_30 {dh : List nm_E} {a n : Nat} (h : dh.length = n) : (nm_X6_30 dh a n).length = n + 20 := by unfold nm_X6_30; rw [List.length_append, nl_X6_29 h]; rfl
theorem np_X6_30 {dh : List nm_E} {a n b : Nat} {e : nm_E} (hne : b ≠ a) (hb : b < n) (h : dh[b]? = some e) : (nm_X6_30 dh a n)[b]? = some e := nm_l5 (np_X6_29 hne hb h)
def nm_X6_31 (dh : List nm_E) (a n : Nat) : List nm_E := nm_X7 (nm_X6_30 dh a n) (n + 19) (n + 20)
theorem nl_X6_31 {dh : List nm_E} {a n : Nat} (h : dh.length = n) : (nm_X6_31 dh a n).length = n + 21 := nl_X7 (nl_X6_30 h)
theorem np_X6_31 {dh : List nm_E} {a n b : Nat} {e : nm_E} (hne : b ≠ a) (hb : b < n) (h : dh[b]? = some e) : (nm_X6_31 dh a n)[b]? = some e := np_X7 (by omega) (by omega) (np_X6_30 hne hb h)
def nm_X6_32 (dh : List nm_E) (a n : Nat) : List nm_E := (nm_X6_31 dh a n).set n (.inl (4, 12, fun _ => 0, fun _ => 0, [some (n + 1), some (n + 3), some (n + 5), some (n + 7), some (n + 9), some (n + 11), some (n + 13), some (n + 15), some (n + 17), some (n + 19), none, none]) : nm_E)
theorem nl_X6_32 {dh : List nm_E} {a n : Nat} (h : dh.length = n) : (nm_X6_32 dh a n).length = n + 21 := by unfold nm_X6_32; rw [List.length_set]; exact nl_X6_31 h
theorem np_X6_32 {dh : List nm_E} {a n b : Nat} {e : nm_E} (hne : b ≠ a) (hb : b < n) (h : dh[b]? = some e) : (nm_X6_32 dh a n)[b]? = some e := nm_l4 (by omega) (np_X6_31 hne hb h)
def nm_X6_33 (dh : List nm_E) (a n : Nat) : List nm_E := (nm_X6_32 dh a n) ++ ([.inr (7, [.null, .int 0])] : List nm_E)
theorem nl_X6_33 {dh : List nm_E} {a n : Nat} (h : dh.length = n) : (nm_X6_33 dh a n).length = n + 22 := by unfold nm_X6_33; rw [List.length_append, nl_X6_32 h]; rfl
theorem np_X6_33 {dh : List nm_E} {a n b : Nat} {e : nm_E} (hne : b ≠ a) (hb : b < n) (h : dh[b]? = some e) : (nm_X6_33 dh a n)[b]? = some e := nm_l5 (np_X6_32 hne hb h)
def nm_X6_34 (dh : List nm_E) (a n : Nat) : List nm_E := nm_X7 (nm_X6_33 dh a n) (n + 21) (n + 22)
theorem nl_X6_34 {dh : List nm_E} {a n : Nat} (h : dh.length = n) : (nm_X6_34 dh a n).length = n + 23 := nl_X7 (nl_X6_33 h)
theorem np_X6_34 {dh : List nm_E} {a n b : Nat} {e : nm_E} (hne : b ≠ a) (hb : b < n) (h : dh[b]? = some e) : (nm_X6_34 dh a n)[b]? = some e := np_X7 (by omega) (by omega) (np_X6_33 hne hb h)
def nm_X6_35 (dh : List nm_E) (a n : Nat) : List nm_E := (nm_X6_34 dh a n).set n (.inl (4, 12, fun _ => 0, fun _ => 0, [some (n + 1), some (n + 3), some (n + 5), some (n + 7), some (n + 9), some (n + 11), some (n + 13), some (n + 15), some (n + 17), some (n + 19), some (n + 21), none]) : nm_E)
theorem nl_X6_35 {dh : List nm_E} {a n : Nat} (h : dh.length = n) : (nm_X6_35 dh a n).length = n + 23 := by unfold nm_X6_35; rw [List.length_set]; exact nl_X6_34 h
theorem np_X6_35 {dh : List nm_E} {a n b : Nat} {e : nm_E} (hne : b ≠ a) (hb : b < n) (h : dh[b]? = some e) : (nm_X6_35 dh a n)[b]? = some e := nm_l4 (by omega) (np_X6_34 hne hb h)
def nm_X6_36 (dh : List nm_E) (a n : Nat) : List nm_E := (nm_X6_35 dh a n) ++ ([.inr (7, [.null, .int 0])] : List nm_E)
theorem nl_X6_36 {dh : List nm_E} {a n : Nat} (h : dh.length = n) : (nm_X6_36 dh a n).length = n + 24 := by unfold nm_X6_36; rw [List.length_append, nl_X6_35 h]; rfl
theorem np_X6_36 {dh : List nm_E} {a n b : Nat} {e : nm_E} (hne : b ≠ a) (hb : b < n) (h : dh[b]? = some e) : (nm_X6_36 dh a n)[b]? = some e := nm_l5 (np_X6_35 hne hb h)
def nm_X6_37 (dh : List nm_E) (a n : Nat) : List nm_E := nm_X7 (nm_X6_36 dh a n) (n + 23) (n + 24)
theorem nl_X6_37 {dh : List nm_E} {a n : Nat} (h : dh.length = n) : (nm_X6_37 dh a n).length = n + 25 := nl_X7 (nl_X6_36 h)
theorem np_X6_37 {dh : List nm_E} {a n b : Nat} {e : nm_E} (hne : b ≠ a) (hb : b < n) (h : dh[b]? = some e) : (nm_X6_37 dh a n)[b]? = some e := np_X7 (by omega) (by omega) (np_X6_36 hne hb h)
def nm_X6_38 (dh : List nm_E) (a n : Nat) : List nm_E := (nm_X6_37 dh a n).set n (.inl (4, 12, fun _ => 0, fun _ => 0, [some (n + 1), some (n + 3), some (n + 5), some (n + 7), some (n + 9), some (n + 11), some (n + 13), some (n + 15), some (n + 17), some (n + 19), some (n + 21), some (n + 23)]) : nm_E)
theorem nl_X6_38 {dh : List nm_E} {a n : Nat} (h : dh.length = n) : (nm_X6_38 dh a n).length = n + 25 := by unfold nm_X6_38; rw [List.length_set]; exact nl_X6_37 h
theorem np_X6_38 {dh : List nm_E} {a n b : Nat} {e : nm_E} (hne : b ≠ a) (hb : b < n) (h : dh[b]? = some e) : (nm_X6_38 dh a n)[b]? = some e := nm_l4 (by omega) (np_X6_37 hne hb h)
abbrev nm_X6 (dh : List nm_E) (a n : Nat) : List nm_E := nm_X6_38 dh a n
theorem nl_X6 {dh : List nm_E} {a n : Nat} (h : dh.length = n) : (nm_X6 dh a n).length = n + 25 := nl_X6_38 h
theorem np_X6 {dh : List nm_E} {a n b : Nat} {e : nm_E} (hne : b ≠ a) (hb : b < n) (h : dh[b]? = some e) : (nm_X6 dh a n)[b]? = some e := np_X6_38 hne hb h
set_option maxRecDepth 100000 in
set_option maxHeartbeats 1000000 in
theorem cN_X6_p13 {dh d38 : List nm_E} {a n : Nat} (han : a < n) (hp : 0 < n) (l38 : d38.length = (n + 25)) (t38 : d38[a]? = some (.inr (6, [.ref n, .int 0, .int 0]))) (y38 : d38[n]? = some (.inl (4, 12, fun _ => 0, fun _ => 0, [some (n + 1), some (n + 3), some (n + 5), some (n + 7), some (n + 9), some (n + 11), some (n + 13), some (n + 15), some (n + 17), some (n + 19), some (n + 21), some (n + 23)]))) (E38 : d38 = nm_X6_38 dh a n) : nm_J (md_X6_init, 3, 25, 2916, n, nm_X6 dh a n) 34 [some (.ref a), some (.int (11 : Int32))] [] d38 25 2916 := by
  refine nm_iinc (q := 37) (v := 12) (lt := [some (.ref a), some (.int (12 : Int32))]) d_X6_init_34 rfl rfl (by decide) (Nat.le_of_ble_eq_true rfl) rfl rfl ?_
  refine nm_goto (t := 15) d_X6_init_37 rfl rfl ?_
  refine nm_iload_n (q := 16) d_X6_init_15 rfl rfl ?_
  refine nm_bipush (q := 18) (v := 12) d_X6_init_16 rfl (by decide) ?_
  refine nm_icmp_geT (t := 40) d_X6_init_18 rfl rfl (by decide) ?_
  exact nm_ret (nc := 25) (ns := 2916) d_X6_init_40 rfl rfl (by dsimp only; exact E38)
set_option maxRecDepth 100000 in
set_option maxHeartbeats 1000000 in
theorem cN_X6_p12 {dh d35 : List nm_E} {a n : Nat} (han : a < n) (hp : 0 < n) (l35 : d35.length = (n + 23)) (t35 : d35[a]? = some (.inr (6, [.ref n, .int 0, .int 0]))) (y35 : d35[n]? = some (.inl (4, 12, fun _ => 0, fun _ => 0, [some (n + 1), some (n + 3), some (n + 5), some (n + 7), some (n + 9), some (n + 11), some (n + 13), some (n + 15), some (n + 17), some (n + 19), some (n + 21), none]))) (E35 : d35 = nm_X6_35 dh a n) : nm_J (md_X6_init, 3, 25, 2916, n, nm_X6 dh a n) 34 [some (.ref a), some (.int (10 : Int32))] [] d35 23 2674 := by
  refine nm_iinc (q := 37) (v := 11) (lt := [some (.ref a), some (.int (11 : Int32))]) d_X6_init_34 rfl rfl (by decide) (Nat.le_of_ble_eq_true rfl) rfl rfl ?_
  refine nm_goto (t := 15) d_X6_init_37 rfl rfl ?_
  refine nm_iload_n (q := 16) d_X6_init_15 rfl rfl ?_
  refine nm_bipush (q := 18) (v := 12) d_X6_init_16 rfl (by decide) ?_
  refine nm_icmp_geF (q := 21) d_X6_init_18 rfl rfl (by decide) ?_
  refine nm_aload_n (q := 22) d_X6_init_21 rfl rfl ?_
  refine nm_getr (q := 25) d_X6_init_22 rfl fg_X6_11 t35 rfl ?_
  refine nm_iload_n (q := 26) d_X6_init_25 rfl rfl ?_
  refine nm_new (nc := 23) (ns := 2674) (q := 29) (n := (n + 23)) (N := 2) [.null, .int 0] d_X6_init_26 rfl nw_X6_9 (fun r h => by cases h; rfl) fd_7 (fun _ => rfl) l35 rfl (Nat.succ_pos _) (Nat.le_of_ble_eq_true rfl) (Nat.le_of_ble_eq_true rfl) (fun d36 e36 => ?_)
  have l36 : d36.length = (n + 24) := nm_la e36 l35
  have t36 : d36[a]? = some (.inr (6, [.ref n, .int 0, .int 0])) := by rw [e36]; exact nm_l1 t35
  have x36_r : d36[n]? = some (.inl (4, 12, fun _ => 0, fun _ => 0, [some (n + 1), some (n + 3), some (n + 5), some (n + 7), some (n + 9), some (n + 11), some (n + 13), some (n + 15), some (n + 17), some (n + 19), some (n + 21), none])) := by rw [e36]; exact nm_l1 y35
  have y36 : d36[(n + 23)]? = some (.inr (7, [.null, .int 0])) := by rw [e36]; exact nm_l3 l35
  have E36 : d36 = nm_X6_36 dh a n := by rw [e36, E35]; rfl
  refine nm_dup (q := 30) d_X6_init_29 rfl rfl ?_
  refine nm_callI (nc := 24) (ns := 2676) (q := 33) (n := (n + 24)) (d' := 1) (mc' := 1) (ms' := 240) d_X6_init_30 rfl hl_X6_17 li_7 (Nat.le_of_ble_eq_true rfl) (Nat.le_of_ble_eq_true rfl) l36 rfl (Nat.succ_pos _) (Nat.le_of_ble_eq_true rfl) (Nat.le_of_ble_eq_true rfl) (cN_X7 l36 y36) (fun d37 e37 => ?_)
  have l37 : d37.length = (n + 25) := by rw [e37]; exact nl_X7 l36
  have t37 : d37[a]? = some (.inr (6, [.ref n, .int 0, .int 0])) := by rw [e37]; exact np_X7 (nm_o2 23 han) (nm_o3 24 han) t36
  have x37_r : d37[n]? = some (.inl (4, 12, fun _ => 0, fun _ => 0, [some (n + 1), some (n + 3), some (n + 5), some (n + 7), some (n + 9), some (n + 11), some (n + 13), some (n + 15), some (n + 17), some (n + 19), some (n + 21), none])) := by rw [e37]; exact np_X7 (nm_o5 (n := n) (i := 0) (j := 23) (by decide)) (nm_o4 (n := n) (i := 0) (j := 24) (by decide)) x36_r
  have y37 : d37[(n + 23)]? = some (.inr (7, [.ref (n + 24), .int 0])) := by rw [e37]; exact nm_l2 (nm_l1 y36)
  have E37 : d37 = nm_X6_37 dh a n := by rw [e37, E36]; rfl
  refine nm_aastore (q := 34) (kk := 11) (rs1 := [some (n + 1), some (n + 3), some (n + 5), some (n + 7), some (n + 9), some (n + 11), some (n + 13), some (n + 15), some (n + 17), some (n + 19), some (n + 21), some (n + 23)]) d_X6_init_33 rfl x37_r y37 (sm_ib_of (by decide)) (by decide) (Nat.le_of_ble_eq_true rfl) rfl (fun d38 e38 => ?_)
  have l38 : d38.length = (n + 25) := nm_ls e38 l37
  have t38 : d38[a]? = some (.inr (6, [.ref n, .int 0, .int 0])) := by rw [e38]; exact nm_l4 (nm_o2 0 han) t37
  have y38 : d38[n]? = some (.inl (4, 12, fun _ => 0, fun _ => 0, [some (n + 1), some (n + 3), some (n + 5), some (n + 7), some (n + 9), some (n + 11), some (n + 13), some (n + 15), some (n + 17), some (n + 19), some (n + 21), some (n + 23)])) := by rw [e38]; exact nm_l2 x37_r
  have E38 : d38 = nm_X6_38 dh a n := by rw [e38, E37]; rfl
  exact cN_X6_p13 han hp l38 t38 y38 E38
set_option maxRecDepth 100000 in
set_option maxHeartbeats 1000000 in
theorem cN_X6_p11 {dh d32 : List nm_E} {a n : Nat} (han : a < n) (hp : 0 < n) (l32 : d32.length = (n + 21)) (t32 : d32[a]? = some (.inr (6, [.ref n, .int 0, .int 0]))) (y32 : d32[n]? = some (.inl (4, 12, fun _ => 0, fun _ => 0, [some (n + 1), some (n + 3), some (n + 5), some (n + 7), some (n + 9), some (n + 11), some (n + 13), some (n + 15), some (n + 17), some (n + 19), none, none]))) (E32 : d32 = nm_X6_32 dh a n) : nm_J (md_X6_init, 3, 25, 2916, n, nm_X6 dh a n) 34 [some (.ref a), some (.int (9 : Int32))] [] d32 21 2432 := by
  refine nm_iinc (q := 37) (v := 10) (lt := [some (.ref a), some (.int (10 : Int32))]) d_X6_init_34 rfl rfl (by decide) (Nat.le_of_ble_eq_true rfl) rfl rfl ?_
  refine nm_goto (t := 15) d_X6_init_37 rfl rfl ?_
  refine nm_iload_n (q := 16) d_X6_init_15 rfl rfl ?_
  refine nm_bipush (q := 18) (v := 12) d_X6_init_16 rfl (by decide) ?_
  refine nm_icmp_geF (q := 21) d_X6_init_18 rfl rfl (by decide) ?_
  refine nm_aload_n (q := 22) d_X6_init_21 rfl rfl ?_
  refine nm_getr (q := 25) d_X6_init_22 rfl fg_X6_11 t32 rfl ?_
  refine nm_iload_n (q := 26) d_X6_init_25 rfl rfl ?_
  refine nm_new (nc := 21) (ns := 2432) (q := 29) (n := (n + 21)) (N := 2) [.null, .int 0] d_X6_init_26 rfl nw_X6_9 (fun r h => by cases h; rfl) fd_7 (fun _ => rfl) l32 rfl (Nat.succ_pos _) (Nat.le_of_ble_eq_true rfl) (Nat.le_of_ble_eq_true rfl) (fun d33 e33 => ?_)
  have l33 : d33.length = (n + 22) := nm_la e33 l32
  have t33 : d33[a]? = some (.inr (6, [.ref n, .int 0, .int 0])) := by rw [e33]; exact nm_l1 t32
  have x33_r : d33[n]? = some (.inl (4, 12, fun _ => 0, fun _ => 0, [some (n + 1), some (n + 3), some (n + 5), some (n + 7), some (n + 9), some (n + 11), some (n + 13), some (n + 15), some (n + 17), some (n + 19), none, none])) := by rw [e33]; exact nm_l1 y32
  have y33 : d33[(n + 21)]? = some (.inr (7, [.null, .int 0])) := by rw [e33]; exact nm_l3 l32
  have E33 : d33 = nm_X6_33 dh a n := by rw [e33, E32]; rfl
  refine nm_dup (q := 30) d_X6_init_29 rfl rfl ?_
  refine nm_callI (nc := 22) (ns := 2434) (q := 33) (n := (n + 22)) (d' := 1) (mc' := 1) (ms' := 240) d_X6_init_30 rfl hl_X6_17 li_7 (Nat.le_of_ble_eq_true rfl) (Nat.le_of_ble_eq_true rfl) l33 rfl (Nat.succ_pos _) (Nat.le_of_ble_eq_true rfl) (Nat.le_of_ble_eq_true rfl) (cN_X7 l33 y33) (fun d34 e34 => ?_)
  have l34 : d34.length = (n + 23) := by rw [e34]; exact nl_X7 l33
  have t34 : d34[a]? = some (.inr (6, [.ref n, .int 0, .int 0])) := by rw [e34]; exact np_X7 (nm_o2 21 han) (nm_o3 22 han) t33
  have x34_r : d34[n]? = some (.inl (4, 12, fun _ => 0, fun _ => 0, [some (n + 1), some (n + 3), some (n + 5), some (n + 7), some (n + 9), some (n + 11), some (n + 13), some (n + 15), some (n + 17), some (n + 19), none, none])) := by rw [e34]; exact np_X7 (nm_o5 (n := n) (i := 0) (j := 21) (by decide)) (nm_o4 (n := n) (i := 0) (j := 22) (by decide)) x33_r
  have y34 : d34[(n + 21)]? = some (.inr (7, [.ref (n + 22), .int 0])) := by rw [e34]; exact nm_l2 (nm_l1 y33)
  have E34 : d34 = nm_X6_34 dh a n := by rw [e34, E33]; rfl
  refine nm_aastore (q := 34) (kk := 10) (rs1 := [some (n + 1), some (n + 3), some (n + 5), some (n + 7), some (n + 9), some (n + 11), some (n + 13), some (n + 15), some (n + 17), some (n + 19), some (n + 21), none]) d_X6_init_33 rfl x34_r y34 (sm_ib_of (by decide)) (by decide) (Nat.le_of_ble_eq_true rfl) rfl (fun d35 e35 => ?_)
  have l35 : d35.length = (n + 23) := nm_ls e35 l34
  have t35 : d35[a]? = some (.inr (6, [.ref n, .int 0, .int 0])) := by rw [e35]; exact nm_l4 (nm_o2 0 han) t34
  have y35 : d35[n]? = some (.inl (4, 12, fun _ => 0, fun _ => 0, [some (n + 1), some (n + 3), some (n + 5), some (n + 7), some (n + 9), some (n + 11), some (n + 13), some (n + 15), some (n + 17), some (n + 19), some (n + 21), none])) := by rw [e35]; exact nm_l2 x34_r
  have E35 : d35 = nm_X6_35 dh a n := by rw [e35, E34]; rfl
  exact cN_X6_p12 han hp l35 t35 y35 E35
set_option maxRecDepth 100000 in
set_option maxHeartbeats 1000000 in
theorem cN_X6_p10 {dh d29 : List nm_E} {a n : Nat} (han : a < n) (hp : 0 < n) (l29 : d29.length = (n + 19)) (t29 : d29[a]? = some (.inr (6, [.ref n, .int 0, .int 0]))) (y29 : d29[n]? = some (.inl (4, 12, fun _ => 0, fun _ => 0, [some (n + 1), some (n + 3), some (n + 5), some (n + 7), some (n + 9), some (n + 11), some (n + 13), some (n + 15), some (n + 17), none, none, none]))) (E29 : d29 = nm_X6_29 dh a n) : nm_J (md_X6_init, 3, 25, 2916, n, nm_X6 dh a n) 34 [some (.ref a), some (.int (8 : Int32))] [] d29 19 2190 := by
  refine nm_iinc (q := 37) (v := 9) (lt := [some (.ref a), some (.int (9 : Int32))]) d_X6_init_34 rfl rfl (by decide) (Nat.le_of_ble_eq_true rfl) rfl rfl ?_
  refine nm_goto (t := 15) d_X6_init_37 rfl rfl ?_
  refine nm_iload_n (q := 16) d_X6_init_15 rfl rfl ?_
  refine nm_bipush (q := 18) (v := 12) d_X6_init_16 rfl (by decide) ?_
  refine nm_icmp_geF (q := 21) d_X6_init_18 rfl rfl (by decide) ?_
  refine nm_aload_n (q := 22) d_X6_init_21 rfl rfl ?_
  refine nm_getr (q := 25) d_X6_init_22 rfl fg_X6_11 t29 rfl ?_
  refine nm_iload_n (q := 26) d_X6_init_25 rfl rfl ?_
  refine nm_new (nc := 19) (ns := 2190) (q := 29) (n := (n + 19)) (N := 2) [.null, .int 0] d_X6_init_26 rfl nw_X6_9 (fun r h => by cases h; rfl) fd_7 (fun _ => rfl) l29 rfl (Nat.succ_pos _) (Nat.le_of_ble_eq_true rfl) (Nat.le_of_ble_eq_true rfl) (fun d30 e30 => ?_)
  have l30 : d30.length = (n + 20) := nm_la e30 l29
  have t30 : d30[a]? = some (.inr (6, [.ref n, .int 0, .int 0])) := by rw [e30]; exact nm_l1 t29
  have x30_r : d30[n]? = some (.inl (4, 12, fun _ => 0, fun _ => 0, [some (n + 1), some (n + 3), some (n + 5), some (n + 7), some (n + 9), some (n + 11), some (n + 13), some (n + 15), some (n + 17), none, none, none])) := by rw [e30]; exact nm_l1 y29
  have y30 : d30[(n + 19)]? = some (.inr (7, [.null, .int 0])) := by rw [e30]; exact nm_l3 l29
  have E30 : d30 = nm_X6_30 dh a n := by rw [e30, E29]; rfl
  refine nm_dup (q := 30) d_X6_init_29 rfl rfl ?_
  refine nm_callI (nc := 20) (ns := 2192) (q := 33) (n := (n + 20)) (d' := 1) (mc' := 1) (ms' := 240) d_X6_init_30 rfl hl_X6_17 li_7 (Nat.le_of_ble_eq_true rfl) (Nat.le_of_ble_eq_true rfl) l30 rfl (Nat.succ_pos _) (Nat.le_of_ble_eq_true rfl) (Nat.le_of_ble_eq_true rfl) (cN_X7 l30 y30) (fun d31 e31 => ?_)
  have l31 : d31.length = (n + 21) := by rw [e31]; exact nl_X7 l30
  have t31 : d31[a]? = some (.inr (6, [.ref n, .int 0, .int 0])) := by rw [e31]; exact np_X7 (nm_o2 19 han) (nm_o3 20 han) t30
  have x31_r : d31[n]? = some (.inl (4, 12, fun _ => 0, fun _ => 0, [some (n + 1), some (n + 3), some (n + 5), some (n + 7), some (n + 9), some (n + 11), some (n + 13), some (n + 15), some (n + 17), none, none, none])) := by rw [e31]; exact np_X7 (nm_o5 (n := n) (i := 0) (j := 19) (by decide)) (nm_o4 (n := n) (i := 0) (j := 20) (by decide)) x30_r
  have y31 : d31[(n + 19)]? = some (.inr (7, [.ref (n + 20), .int 0])) := by rw [e31]; exact nm_l2 (nm_l1 y30)
  have E31 : d31 = nm_X6_31 dh a n := by rw [e31, E30]; rfl
  refine nm_aastore (q := 34) (kk := 9) (rs1 := [some (n + 1), some (n + 3), some (n + 5), some (n + 7), some (n + 9), some (n + 11), some (n + 13), some (n + 15), some (n + 17), some (n + 19), none, none]) d_X6_init_33 rfl x31_r y31 (sm_ib_of (by decide)) (by decide) (Nat.le_of_ble_eq_true rfl) rfl (fun d32 e32 => ?_)
  have l32 : d32.length = (n + 21) := nm_ls e32 l31
  have t32 : d32[a]? = some (.inr (6, [.ref n, .int 0, .int 0])) := by rw [e32]; exact nm_l4 (nm_o2 0 han) t31
  have y32 : d32[n]? = some (.inl (4, 12, fun _ => 0, fun _ => 0, [some (n + 1), some (n + 3), some (n + 5), some (n + 7), some (n + 9), some (n + 11), some (n + 13), some (n + 15), some (n + 17), some (n + 19), none, none])) := by rw [e32]; exact nm_l2 x31_r
  have E32 : d32 = nm_X6_32 dh a n := by rw [e32, E31]; rfl
  exact cN_X6_p11 han hp l32 t32 y32 E32
set_option maxRecDepth 100000 in
set_option maxHeartbeats 1000000 in
theorem cN_X6_p9 {dh d26 : List nm_E} {a n : Nat} (han : a < n) (hp : 0 < n) (l26 : d26.length = (n + 17)) (t26 : d26[a]? = some (.inr (6, [.ref n, .int 0, .int 0]))) (y26 : d26[n]? = some (.inl (4, 12, fun _ => 0, fun _ => 0, [some (n + 1), some (n + 3), some (n + 5), some (n + 7), some (n + 9), some (n + 11), some (n + 13), some (n + 15), none, none, none, none]))) (E26 : d26 = nm_X6_26 dh a n) : nm_J (md_X6_init, 3, 25, 2916, n, nm_X6 dh a n) 34 [some (.ref a), some (.int (7 : Int32))] [] d26 17 1948 := by
  refine nm_iinc (q := 37) (v := 8) (lt := [some (.ref a), some (.int (8 : Int32))]) d_X6_init_34 rfl rfl (by decide) (Nat.le_of_ble_eq_true rfl) rfl rfl ?_
  refine nm_goto (t := 15) d_X6_init_37 rfl rfl ?_
  refine nm_iload_n (q := 16) d_X6_init_15 rfl rfl ?_
  refine nm_bipush (q := 18) (v := 12) d_X6_init_16 rfl (by decide) ?_
  refine nm_icmp_geF (q := 21) d_X6_init_18 rfl rfl (by decide) ?_
  refine nm_aload_n (q := 22) d_X6_init_21 rfl rfl ?_
  refine nm_getr (q := 25) d_X6_init_22 rfl fg_X6_11 t26 rfl ?_
  refine nm_iload_n (q := 26) d_X6_init_25 rfl rfl ?_
  refine nm_new (nc := 17) (ns := 1948) (q := 29) (n := (n + 17)) (N := 2) [.null, .int 0] d_X6_init_26 rfl nw_X6_9 (fun r h => by cases h; rfl) fd_7 (fun _ => rfl) l26 rfl (Nat.succ_pos _) (Nat.le_of_ble_eq_true rfl) (Nat.le_of_ble_eq_true rfl) (fun d27 e27 => ?_)
  have l27 : d27.length = (n + 18) := nm_la e27 l26
  have t27 : d27[a]? = some (.inr (6, [.ref n, .int 0, .int 0])) := by rw [e27]; exact nm_l1 t26
  have x27_r : d27[n]? = some (.inl (4, 12, fun _ => 0, fun _ => 0, [some (n + 1), some (n + 3), some (n + 5), some (n + 7), some (n + 9), some (n + 11), some (n + 13), some (n + 15), none, none, none, none])) := by rw [e27]; exact nm_l1 y26
  have y27 : d27[(n + 17)]? = some (.inr (7, [.null, .int 0])) := by rw [e27]; exact nm_l3 l26
  have E27 : d27 = nm_X6_27 dh a n := by rw [e27, E26]; rfl
  refine nm_dup (q := 30) d_X6_init_29 rfl rfl ?_
  refine nm_callI (nc := 18) (ns := 1950) (q := 33) (n := (n + 18)) (d' := 1) (mc' := 1) (ms' := 240) d_X6_init_30 rfl hl_X6_17 li_7 (Nat.le_of_ble_eq_true rfl) (Nat.le_of_ble_eq_true rfl) l27 rfl (Nat.succ_pos _) (Nat.le_of_ble_eq_true rfl) (Nat.le_of_ble_eq_true rfl) (cN_X7 l27 y27) (fun d28 e28 => ?_)
  have l28 : d28.length = (n + 19) := by rw [e28]; exact nl_X7 l27
  have t28 : d28[a]? = some (.inr (6, [.ref n, .int 0, .int 0])) := by rw [e28]; exact np_X7 (nm_o2 17 han) (nm_o3 18 han) t27
  have x28_r : d28[n]? = some (.inl (4, 12, fun _ => 0, fun _ => 0, [some (n + 1), some (n + 3), some (n + 5), some (n + 7), some (n + 9), some (n + 11), some (n + 13), some (n + 15), none, none, none, none])) := by rw [e28]; exact np_X7 (nm_o5 (n := n) (i := 0) (j := 17) (by decide)) (nm_o4 (n := n) (i := 0) (j := 18) (by decide)) x27_r
  have y28 : d28[(n + 17)]? = some (.inr (7, [.ref (n + 18), .int 0])) := by rw [e28]; exact nm_l2 (nm_l1 y27)
  have E28 : d28 = nm_X6_28 dh a n := by rw [e28, E27]; rfl
  refine nm_aastore (q := 34) (kk := 8) (rs1 := [some (n + 1), some (n + 3), some (n + 5), some (n + 7), some (n + 9), some (n + 11), some (n + 13), some (n + 15), some (n + 17), none, none, none]) d_X6_init_33 rfl x28_r y28 (sm_ib_of (by decide)) (by decide) (Nat.le_of_ble_eq_true rfl) rfl (fun d29 e29 => ?_)
  have l29 : d29.length = (n + 19) := nm_ls e29 l28
  have t29 : d29[a]? = some (.inr (6, [.ref n, .int 0, .int 0])) := by rw [e29]; exact nm_l4 (nm_o2 0 han) t28
  have y29 : d29[n]? = some (.inl (4, 12, fun _ => 0, fun _ => 0, [some (n + 1), some (n + 3), some (n + 5), some (n + 7), some (n + 9), some (n + 11), some (n + 13), some (n + 15), some (n + 17), none, none, none])) := by rw [e29]; exact nm_l2 x28_r
  have E29 : d29 = nm_X6_29 dh a n := by rw [e29, E28]; rfl
  exact cN_X6_p10 han hp l29 t29 y29 E29
set_option maxRecDepth 100000 in
set_option maxHeartbeats 1000000 in
theorem cN_X6_p8 {dh d23 : List nm_E} {a n : Nat} (han : a < n) (hp : 0 < n) (l23 : d23.length = (n + 15)) (t23 : d23[a]? = some (.inr (6, [.ref n, .int 0, .int 0]))) (y23 : d23[n]? = some (.inl (4, 12, fun _ => 0, fun _ => 0, [some (n + 1), some (n + 3), some (n + 5), some (n + 7), some (n + 9), some (n + 11), some (n + 13), none, none, none, none, none]))) (E23 : d23 = nm_X6_23 dh a n) : nm_J (md_X6_init, 3, 25, 2916, n, nm_X6 dh a n) 34 [some (.ref a), some (.int (6 : Int32))] [] d23 15 1706 := by
  refine nm_iinc (q := 37) (v := 7) (lt := [some (.ref a), some (.int (7 : Int32))]) d_X6_init_34 rfl rfl (by decide) (Nat.le_of_ble_eq_true rfl) rfl rfl ?_
  refine nm_goto (t := 15) d_X6_init_37 rfl rfl ?_
  refine nm_iload_n (q := 16) d_X6_init_15 rfl rfl ?_
  refine nm_bipush (q := 18) (v := 12) d_X6_init_16 rfl (by decide) ?_
  refine nm_icmp_geF (q := 21) d_X6_init_18 rfl rfl (by decide) ?_
  refine nm_aload_n (q := 22) d_X6_init_21 rfl rfl ?_
  refine nm_getr (q := 25) d_X6_init_22 rfl fg_X6_11 t23 rfl ?_
  refine nm_iload_n (q := 26) d_X6_init_25 rfl rfl ?_
  refine nm_new (nc := 15) (ns := 1706) (q := 29) (n := (n + 15)) (N := 2) [.null, .int 0] d_X6_init_26 rfl nw_X6_9 (fun r h => by cases h; rfl) fd_7 (fun _ => rfl) l23 rfl (Nat.succ_pos _) (Nat.le_of_ble_eq_true rfl) (Nat.le_of_ble_eq_true rfl) (fun d24 e24 => ?_)
  have l24 : d24.length = (n + 16) := nm_la e24 l23
  have t24 : d24[a]? = some (.inr (6, [.ref n, .int 0, .int 0])) := by rw [e24]; exact nm_l1 t23
  have x24_r : d24[n]? = some (.inl (4, 12, fun _ => 0, fun _ => 0, [some (n + 1), some (n + 3), some (n + 5), some (n + 7), some (n + 9), some (n + 11), some (n + 13), none, none, none, none, none])) := by rw [e24]; exact nm_l1 y23
  have y24 : d24[(n + 15)]? = some (.inr (7, [.null, .int 0])) := by rw [e24]; exact nm_l3 l23
  have E24 : d24 = nm_X6_24 dh a n := by rw [e24, E23]; rfl
  refine nm_dup (q := 30) d_X6_init_29 rfl rfl ?_
  refine nm_callI (nc := 16) (ns := 1708) (q := 33) (n := (n + 16)) (d' := 1) (mc' := 1) (ms' := 240) d_X6_init_30 rfl hl_X6_17 li_7 (Nat.le_of_ble_eq_true rfl) (Nat.le_of_ble_eq_true rfl) l24 rfl (Nat.succ_pos _) (Nat.le_of_ble_eq_true rfl) (Nat.le_of_ble_eq_true rfl) (cN_X7 l24 y24) (fun d25 e25 => ?_)
  have l25 : d25.length = (n + 17) := by rw [e25]; exact nl_X7 l24
  have t25 : d25[a]? = some (.inr (6, [.ref n, .int 0, .int 0])) := by rw [e25]; exact np_X7 (nm_o2 15 han) (nm_o3 16 han) t24
  have x25_r : d25[n]? = some (.inl (4, 12, fun _ => 0, fun _ => 0, [some (n + 1), some (n + 3), some (n + 5), some (n + 7), some (n + 9), some (n + 11), some (n + 13), none, none, none, none, none])) := by rw [e25]; exact np_X7 (nm_o5 (n := n) (i := 0) (j := 15) (by decide)) (nm_o4 (n := n) (i := 0) (j := 16) (by decide)) x24_r
  have y25 : d25[(n + 15)]? = some (.inr (7, [.ref (n + 16), .int 0])) := by rw [e25]; exact nm_l2 (nm_l1 y24)
  have E25 : d25 = nm_X6_25 dh a n := by rw [e25, E24]; rfl
  refine nm_aastore (q := 34) (kk := 7) (rs1 := [some (n + 1), some (n + 3), some (n + 5), some (n + 7), some (n + 9), some (n + 11), some (n + 13), some (n + 15), none, none, none, none]) d_X6_init_33 rfl x25_r y25 (sm_ib_of (by decide)) (by decide) (Nat.le_of_ble_eq_true rfl) rfl (fun d26 e26 => ?_)
  have l26 : d26.length = (n + 17) := nm_ls e26 l25
  have t26 : d26[a]? = some (.inr (6, [.ref n, .int 0, .int 0])) := by rw [e26]; exact nm_l4 (nm_o2 0 han) t25
  have y26 : d26[n]? = some (.inl (4, 12, fun _ => 0, fun _ => 0, [some (n + 1), some (n + 3), some (n + 5), some (n + 7), some (n + 9), some (n + 11), some (n + 13), some (n + 15), none, none, none, none])) := by rw [e26]; exact nm_l2 x25_r
  have E26 : d26 = nm_X6_26 dh a n := by rw [e26, E25]; rfl
  exact cN_X6_p9 han hp l26 t26 y26 E26
set_option maxRecDepth 100000 in
set_option maxHeartbeats 1000000 in
theorem cN_X6_p7 {dh d20 : List nm_E} {a n : Nat} (han : a < n) (hp : 0 < n) (l20 : d20.length = (n + 13)) (t20 : d20[a]? = some (.inr (6, [.ref n, .int 0, .int 0]))) (y20 : d20[n]? = some (.inl (4, 12, fun _ => 0, fun _ => 0, [some (n + 1), some (n + 3), some (n + 5), some (n + 7), some (n + 9), some (n + 11), none, none, none, none, none, none]))) (E20 : d20 = nm_X6_20 dh a n) : nm_J (md_X6_init, 3, 25, 2916, n, nm_X6 dh a n) 34 [some (.ref a), some (.int (5 : Int32))] [] d20 13 1464 := by
  refine nm_iinc (q := 37) (v := 6) (lt := [some (.ref a), some (.int (6 : Int32))]) d_X6_init_34 rfl rfl (by decide) (Nat.le_of_ble_eq_true rfl) rfl rfl ?_
  refine nm_goto (t := 15) d_X6_init_37 rfl rfl ?_
  refine nm_iload_n (q := 16) d_X6_init_15 rfl rfl ?_
  refine nm_bipush (q := 18) (v := 12) d_X6_init_16 rfl (by decide) ?_
  refine nm_icmp_geF (q := 21) d_X6_init_18 rfl rfl (by decide) ?_
  refine nm_aload_n (q := 22) d_X6_init_21 rfl rfl ?_
  refine nm_getr (q := 25) d_X6_init_22 rfl fg_X6_11 t20 rfl ?_
  refine nm_iload_n (q := 26) d_X6_init_25 rfl rfl ?_
  refine nm_new (nc := 13) (ns := 1464) (q := 29) (n := (n + 13)) (N := 2) [.null, .int 0] d_X6_init_26 rfl nw_X6_9 (fun r h => by cases h; rfl) fd_7 (fun _ => rfl) l20 rfl (Nat.succ_pos _) (Nat.le_of_ble_eq_true rfl) (Nat.le_of_ble_eq_true rfl) (fun d21 e21 => ?_)
  have l21 : d21.length = (n + 14) := nm_la e21 l20
  have t21 : d21[a]? = some (.inr (6, [.ref n, .int 0, .int 0])) := by rw [e21]; exact nm_l1 t20
  have x21_r : d21[n]? = some (.inl (4, 12, fun _ => 0, fun _ => 0, [some (n + 1), some (n + 3), some (n + 5), some (n + 7), some (n + 9), some (n + 11), none, none, none, none, none, none])) := by rw [e21]; exact nm_l1 y20
  have y21 : d21[(n + 13)]? = some (.inr (7, [.null, .int 0])) := by rw [e21]; exact nm_l3 l20
  have E21 : d21 = nm_X6_21 dh a n := by rw [e21, E20]; rfl
  refine nm_dup (q := 30) d_X6_init_29 rfl rfl ?_
  refine nm_callI (nc := 14) (ns := 1466) (q := 33) (n := (n + 14)) (d' := 1) (mc' := 1) (ms' := 240) d_X6_init_30 rfl hl_X6_17 li_7 (Nat.le_of_ble_eq_true rfl) (Nat.le_of_ble_eq_true rfl) l21 rfl (Nat.succ_pos _) (Nat.le_of_ble_eq_true rfl) (Nat.le_of_ble_eq_true rfl) (cN_X7 l21 y21) (fun d22 e22 => ?_)
  have l22 : d22.length = (n + 15) := by rw [e22]; exact nl_X7 l21
  have t22 : d22[a]? = some (.inr (6, [.ref n, .int 0, .int 0])) := by rw [e22]; exact np_X7 (nm_o2 13 han) (nm_o3 14 han) t21
  have x22_r : d22[n]? = some (.inl (4, 12, fun _ => 0, fun _ => 0, [some (n + 1), some (n + 3), some (n + 5), some (n + 7), some (n + 9), some (n + 11), none, none, none, none, none, none])) := by rw [e22]; exact np_X7 (nm_o5 (n := n) (i := 0) (j := 13) (by decide)) (nm_o4 (n := n) (i := 0) (j := 14) (by decide)) x21_r
  have y22 : d22[(n + 13)]? = some (.inr (7, [.ref (n + 14), .int 0])) := by rw [e22]; exact nm_l2 (nm_l1 y21)
  have E22 : d22 = nm_X6_22 dh a n := by rw [e22, E21]; rfl
  refine nm_aastore (q := 34) (kk := 6) (rs1 := [some (n + 1), some (n + 3), some (n + 5), some (n + 7), some (n + 9), some (n + 11), some (n + 13), none, none, none, none, none]) d_X6_init_33 rfl x22_r y22 (sm_ib_of (by decide)) (by decide) (Nat.le_of_ble_eq_true rfl) rfl (fun d23 e23 => ?_)
  have l23 : d23.length = (n + 15) := nm_ls e23 l22
  have t23 : d23[a]? = some (.inr (6, [.ref n, .int 0, .int 0])) := by rw [e23]; exact nm_l4 (nm_o2 0 han) t22
  have y23 : d23[n]? = some (.inl (4, 12, fun _ => 0, fun _ => 0, [some (n + 1), some (n + 3), some (n + 5), some (n + 7), some (n + 9), some (n + 11), some (n + 13), none, none, none, none, none])) := by rw [e23]; exact nm_l2 x22_r
  have E23 : d23 = nm_X6_23 dh a n := by rw [e23, E22]; rfl
  exact cN_X6_p8 han hp l23 t23 y23 E23
set_option maxRecDepth 100000 in
set_option maxHeartbeats 1000000 in
theorem cN_X6_p6 {dh d17 : List nm_E} {a n : Nat} (han : a < n) (hp : 0 < n) (l17 : d17.length = (n + 11)) (t17 : d17[a]? = some (.inr (6, [.ref n, .int 0, .int 0]))) (y17 : d17[n]? = some (.inl (4, 12, fun _ => 0, fun _ => 0, [some (n + 1), some (n + 3), some (n + 5), some (n + 7), some (n + 9), none, none, none, none, none, none, none]))) (E17 : d17 = nm_X6_17 dh a n) : nm_J (md_X6_init, 3, 25, 2916, n, nm_X6 dh a n) 34 [some (.ref a), some (.int (4 : Int32))] [] d17 11 1222 := by
  refine nm_iinc (q := 37) (v := 5) (lt := [some (.ref a), some (.int (5 : Int32))]) d_X6_init_34 rfl rfl (by decide) (Nat.le_of_ble_eq_true rfl) rfl rfl ?_
  refine nm_goto (t := 15) d_X6_init_37 rfl rfl ?_
  refine nm_iload_n (q := 16) d_X6_init_15 rfl rfl ?_
  refine nm_bipush (q := 18) (v := 12) d_X6_init_16 rfl (by decide) ?_
  refine nm_icmp_geF (q := 21) d_X6_init_18 rfl rfl (by decide) ?_
  refine nm_aload_n (q := 22) d_X6_init_21 rfl rfl ?_
  refine nm_getr (q := 25) d_X6_init_22 rfl fg_X6_11 t17 rfl ?_
  refine nm_iload_n (q := 26) d_X6_init_25 rfl rfl ?_
  refine nm_new (nc := 11) (ns := 1222) (q := 29) (n := (n + 11)) (N := 2) [.null, .int 0] d_X6_init_26 rfl nw_X6_9 (fun r h => by cases h; rfl) fd_7 (fun _ => rfl) l17 rfl (Nat.succ_pos _) (Nat.le_of_ble_eq_true rfl) (Nat.le_of_ble_eq_true rfl) (fun d18 e18 => ?_)
  have l18 : d18.length = (n + 12) := nm_la e18 l17
  have t18 : d18[a]? = some (.inr (6, [.ref n, .int 0, .int 0])) := by rw [e18]; exact nm_l1 t17
  have x18_r : d18[n]? = some (.inl (4, 12, fun _ => 0, fun _ => 0, [some (n + 1), some (n + 3), some (n + 5), some (n + 7), some (n + 9), none, none, none, none, none, none, none])) := by rw [e18]; exact nm_l1 y17
  have y18 : d18[(n + 11)]? = some (.inr (7, [.null, .int 0])) := by rw [e18]; exact nm_l3 l17
  have E18 : d18 = nm_X6_18 dh a n := by rw [e18, E17]; rfl
  refine nm_dup (q := 30) d_X6_init_29 rfl rfl ?_
  refine nm_callI (nc := 12) (ns := 1224) (q := 33) (n := (n + 12)) (d' := 1) (mc' := 1) (ms' := 240) d_X6_init_30 rfl hl_X6_17 li_7 (Nat.le_of_ble_eq_true rfl) (Nat.le_of_ble_eq_true rfl) l18 rfl (Nat.succ_pos _) (Nat.le_of_ble_eq_true rfl) (Nat.le_of_ble_eq_true rfl) (cN_X7 l18 y18) (fun d19 e19 => ?_)
  have l19 : d19.length = (n + 13) := by rw [e19]; exact nl_X7 l18
  have t19 : d19[a]? = some (.inr (6, [.ref n, .int 0, .int 0])) := by rw [e19]; exact np_X7 (nm_o2 11 han) (nm_o3 12 han) t18
  have x19_r : d19[n]? = some (.inl (4, 12, fun _ => 0, fun _ => 0, [some (n + 1), some (n + 3), some (n + 5), some (n + 7), some (n + 9), none, none, none, none, none, none, none])) := by rw [e19]; exact np_X7 (nm_o5 (n := n) (i := 0) (j := 11) (by decide)) (nm_o4 (n := n) (i := 0) (j := 12) (by decide)) x18_r
  have y19 : d19[(n + 11)]? = some (.inr (7, [.ref (n + 12), .int 0])) := by rw [e19]; exact nm_l2 (nm_l1 y18)
  have E19 : d19 = nm_X6_19 dh a n := by rw [e19, E18]; rfl
  refine nm_aastore (q := 34) (kk := 5) (rs1 := [some (n + 1), some (n + 3), some (n + 5), some (n + 7), some (n + 9), some (n + 11), none, none, none, none, none, none]) d_X6_init_33 rfl x19_r y19 (sm_ib_of (by decide)) (by decide) (Nat.le_of_ble_eq_true rfl) rfl (fun d20 e20 => ?_)
  have l20 : d20.length = (n + 13) := nm_ls e20 l19
  have t20 : d20[a]? = some (.inr (6, [.ref n, .int 0, .int 0])) := by rw [e20]; exact nm_l4 (nm_o2 0 han) t19
  have y20 : d20[n]? = some (.inl (4, 12, fun _ => 0, fun _ => 0, [some (n + 1), some (n + 3), some (n + 5), some (n + 7), some (n + 9), some (n + 11), none, none, none, none, none, none])) := by rw [e20]; exact nm_l2 x19_r
  have E20 : d20 = nm_X6_20 dh a n := by rw [e20, E19]; rfl
  exact cN_X6_p7 han hp l20 t20 y20 E20
set_option maxRecDepth 100000 in
set_option maxHeartbeats 1000000 in
theorem cN_X6_p5 {dh d14 : List nm_E} {a n : Nat} (han : a < n) (hp : 0 < n) (l14 : d14.length = (n + 9)) (t14 : d14[a]? = some (.inr (6, [.ref n, .int 0, .int 0]))) (y14 : d14[n]? = some (.inl (4, 12, fun _ => 0, fun _ => 0, [some (n + 1), some (n + 3), some (n + 5), some (n + 7), none, none, none, none, none, none, none, none]))) (E14 : d14 = nm_X6_14 dh a n) : nm_J (md_X6_init, 3, 25, 2916, n, nm_X6 dh a n) 34 [some (.ref a), some (.int (3 : Int32))] [] d14 9 980 := by
  refine nm_iinc (q := 37) (v := 4) (lt := [some (.ref a), some (.int (4 : Int32))]) d_X6_init_34 rfl rfl (by decide) (Nat.le_of_ble_eq_true rfl) rfl rfl ?_
  refine nm_goto (t := 15) d_X6_init_37 rfl rfl ?_
  refine nm_iload_n (q := 16) d_X6_init_15 rfl rfl ?_
  refine nm_bipush (q := 18) (v := 12) d_X6_init_16 rfl (by decide) ?_
  refine nm_icmp_geF (q := 21) d_X6_init_18 rfl rfl (by decide) ?_
  refine nm_aload_n (q := 22) d_X6_init_21 rfl rfl ?_
  refine nm_getr (q := 25) d_X6_init_22 rfl fg_X6_11 t14 rfl ?_
  refine nm_iload_n (q := 26) d_X6_init_25 rfl rfl ?_
  refine nm_new (nc := 9) (ns := 980) (q := 29) (n := (n + 9)) (N := 2) [.null, .int 0] d_X6_init_26 rfl nw_X6_9 (fun r h => by cases h; rfl) fd_7 (fun _ => rfl) l14 rfl (Nat.succ_pos _) (Nat.le_of_ble_eq_true rfl) (Nat.le_of_ble_eq_true rfl) (fun d15 e15 => ?_)
  have l15 : d15.length = (n + 10) := nm_la e15 l14
  have t15 : d15[a]? = some (.inr (6, [.ref n, .int 0, .int 0])) := by rw [e15]; exact nm_l1 t14
  have x15_r : d15[n]? = some (.inl (4, 12, fun _ => 0, fun _ => 0, [some (n + 1), some (n + 3), some (n + 5), some (n + 7), none, none, none, none, none, none, none, none])) := by rw [e15]; exact nm_l1 y14
  have y15 : d15[(n + 9)]? = some (.inr (7, [.null, .int 0])) := by rw [e15]; exact nm_l3 l14
  have E15 : d15 = nm_X6_15 dh a n := by rw [e15, E14]; rfl
  refine nm_dup (q := 30) d_X6_init_29 rfl rfl ?_
  refine nm_callI (nc := 10) (ns := 982) (q := 33) (n := (n + 10)) (d' := 1) (mc' := 1) (ms' := 240) d_X6_init_30 rfl hl_X6_17 li_7 (Nat.le_of_ble_eq_true rfl) (Nat.le_of_ble_eq_true rfl) l15 rfl (Nat.succ_pos _) (Nat.le_of_ble_eq_true rfl) (Nat.le_of_ble_eq_true rfl) (cN_X7 l15 y15) (fun d16 e16 => ?_)
  have l16 : d16.length = (n + 11) := by rw [e16]; exact nl_X7 l15
  have t16 : d16[a]? = some (.inr (6, [.ref n, .int 0, .int 0])) := by rw [e16]; exact np_X7 (nm_o2 9 han) (nm_o3 10 han) t15
  have x16_r : d16[n]? = some (.inl (4, 12, fun _ => 0, fun _ => 0, [some (n + 1), some (n + 3), some (n + 5), some (n + 7), none, none, none, none, none, none, none, none])) := by rw [e16]; exact np_X7 (nm_o5 (n := n) (i := 0) (j := 9) (by decide)) (nm_o4 (n := n) (i := 0) (j := 10) (by decide)) x15_r
  have y16 : d16[(n + 9)]? = some (.inr (7, [.ref (n + 10), .int 0])) := by rw [e16]; exact nm_l2 (nm_l1 y15)
  have E16 : d16 = nm_X6_16 dh a n := by rw [e16, E15]; rfl
  refine nm_aastore (q := 34) (kk := 4) (rs1 := [some (n + 1), some (n + 3), some (n + 5), some (n + 7), some (n + 9), none, none, none, none, none, none, none]) d_X6_init_33 rfl x16_r y16 (sm_ib_of (by decide)) (by decide) (Nat.le_of_ble_eq_true rfl) rfl (fun d17 e17 => ?_)
  have l17 : d17.length = (n + 11) := nm_ls e17 l16
  have t17 : d17[a]? = some (.inr (6, [.ref n, .int 0, .int 0])) := by rw [e17]; exact nm_l4 (nm_o2 0 han) t16
  have y17 : d17[n]? = some (.inl (4, 12, fun _ => 0, fun _ => 0, [some (n + 1), some (n + 3), some (n + 5), some (n + 7), some (n + 9), none, none, none, none, none, none, none])) := by rw [e17]; exact nm_l2 x16_r
  have E17 : d17 = nm_X6_17 dh a n := by rw [e17, E16]; rfl
  exact cN_X6_p6 han hp l17 t17 y17 E17
set_option maxRecDepth 100000 in
set_option maxHeartbeats 1000000 in
theorem cN_X6_p4 {dh d11 : List nm_E} {a n : Nat} (han : a < n) (hp : 0 < n) (l11 : d11.length = (n + 7)) (t11 : d11[a]? = some (.inr (6, [.ref n, .int 0, .int 0]))) (y11 : d11[n]? = some (.inl (4, 12, fun _ => 0, fun _ => 0, [some (n + 1), some (n + 3), some (n + 5), none, none, none, none, none, none, none, none, none]))) (E11 : d11 = nm_X6_11 dh a n) : nm_J (md_X6_init, 3, 25, 2916, n, nm_X6 dh a n) 34 [some (.ref a), some (.int (2 : Int32))] [] d11 7 738 := by
  refine nm_iinc (q := 37) (v := 3) (lt := [some (.ref a), some (.int (3 : Int32))]) d_X6_init_34 rfl rfl (by decide) (Nat.le_of_ble_eq_true rfl) rfl rfl ?_
  refine nm_goto (t := 15) d_X6_init_37 rfl rfl ?_
  refine nm_iload_n (q := 16) d_X6_init_15 rfl rfl ?_
  refine nm_bipush (q := 18) (v := 12) d_X6_init_16 rfl (by decide) ?_
  refine nm_icmp_geF (q := 21) d_X6_init_18 rfl rfl (by decide) ?_
  refine nm_aload_n (q := 22) d_X6_init_21 rfl rfl ?_
  refine nm_getr (q := 25) d_X6_init_22 rfl fg_X6_11 t11 rfl ?_
  refine nm_iload_n (q := 26) d_X6_init_25 rfl rfl ?_
  refine nm_new (nc := 7) (ns := 738) (q := 29) (n := (n + 7)) (N := 2) [.null, .int 0] d_X6_init_26 rfl nw_X6_9 (fun r h => by cases h; rfl) fd_7 (fun _ => rfl) l11 rfl (Nat.succ_pos _) (Nat.le_of_ble_eq_true rfl) (Nat.le_of_ble_eq_true rfl) (fun d12 e12 => ?_)
  have l12 : d12.length = (n + 8) := nm_la e12 l11
  have t12 : d12[a]? = some (.inr (6, [.ref n, .int 0, .int 0])) := by rw [e12]; exact nm_l1 t11
  have x12_r : d12[n]? = some (.inl (4, 12, fun _ => 0, fun _ => 0, [some (n + 1), some (n + 3), some (n + 5), none, none, none, none, none, none, none, none, none])) := by rw [e12]; exact nm_l1 y11
  have y12 : d12[(n + 7)]? = some (.inr (7, [.null, .int 0])) := by rw [e12]; exact nm_l3 l11
  have E12 : d12 = nm_X6_12 dh a n := by rw [e12, E11]; rfl
  refine nm_dup (q := 30) d_X6_init_29 rfl rfl ?_
  refine nm_callI (nc := 8) (ns := 740) (q := 33) (n := (n + 8)) (d' := 1) (mc' := 1) (ms' := 240) d_X6_init_30 rfl hl_X6_17 li_7 (Nat.le_of_ble_eq_true rfl) (Nat.le_of_ble_eq_true rfl) l12 rfl (Nat.succ_pos _) (Nat.le_of_ble_eq_true rfl) (Nat.le_of_ble_eq_true rfl) (cN_X7 l12 y12) (fun d13 e13 => ?_)
  have l13 : d13.length = (n + 9) := by rw [e13]; exact nl_X7 l12
  have t13 : d13[a]? = some (.inr (6, [.ref n, .int 0, .int 0])) := by rw [e13]; exact np_X7 (nm_o2 7 han) (nm_o3 8 han) t12
  have x13_r : d13[n]? = some (.inl (4, 12, fun _ => 0, fun _ => 0, [some (n + 1), some (n + 3), some (n + 5), none, none, none, none, none, none, none, none, none])) := by rw [e13]; exact np_X7 (nm_o5 (n := n) (i := 0) (j := 7) (by decide)) (nm_o4 (n := n) (i := 0) (j := 8) (by decide)) x12_r
  have y13 : d13[(n + 7)]? = some (.inr (7, [.ref (n + 8), .int 0])) := by rw [e13]; exact nm_l2 (nm_l1 y12)
  have E13 : d13 = nm_X6_13 dh a n := by rw [e13, E12]; rfl
  refine nm_aastore (q := 34) (kk := 3) (rs1 := [some (n + 1), some (n + 3), some (n + 5), some (n + 7), none, none, none, none, none, none, none, none]) d_X6_init_33 rfl x13_r y13 (sm_ib_of (by decide)) (by decide) (Nat.le_of_ble_eq_true rfl) rfl (fun d14 e14 => ?_)
  have l14 : d14.length = (n + 9) := nm_ls e14 l13
  have t14 : d14[a]? = some (.inr (6, [.ref n, .int 0, .int 0])) := by rw [e14]; exact nm_l4 (nm_o2 0 han) t13
  have y14 : d14[n]? = some (.inl (4, 12, fun _ => 0, fun _ => 0, [some (n + 1), some (n + 3), some (n + 5), some (n + 7), none, none, none, none, none, none, none, none])) := by rw [e14]; exact nm_l2 x13_r
  have E14 : d14 = nm_X6_14 dh a n := by rw [e14, E13]; rfl
  exact cN_X6_p5 han hp l14 t14 y14 E14
set_option maxRecDepth 100000 in
set_option maxHeartbeats 1000000 in
theorem cN_X6_p3 {dh d8 : List nm_E} {a n : Nat} (han : a < n) (hp : 0 < n) (l8 : d8.length = (n + 5)) (t8 : d8[a]? = some (.inr (6, [.ref n, .int 0, .int 0]))) (y8 : d8[n]? = some (.inl (4, 12, fun _ => 0, fun _ => 0, [some (n + 1), some (n + 3), none, none, none, none, none, none, none, none, none, none]))) (E8 : d8 = nm_X6_8 dh a n) : nm_J (md_X6_init, 3, 25, 2916, n, nm_X6 dh a n) 34 [some (.ref a), some (.int (1 : Int32))] [] d8 5 496 := by
  refine nm_iinc (q := 37) (v := 2) (lt := [some (.ref a), some (.int (2 : Int32))]) d_X6_init_34 rfl rfl (by decide) (Nat.le_of_ble_eq_true rfl) rfl rfl ?_
  refine nm_goto (t := 15) d_X6_init_37 rfl rfl ?_
  refine nm_iload_n (q := 16) d_X6_init_15 rfl rfl ?_
  refine nm_bipush (q := 18) (v := 12) d_X6_init_16 rfl (by decide) ?_
  refine nm_icmp_geF (q := 21) d_X6_init_18 rfl rfl (by decide) ?_
  refine nm_aload_n (q := 22) d_X6_init_21 rfl rfl ?_
  refine nm_getr (q := 25) d_X6_init_22 rfl fg_X6_11 t8 rfl ?_
  refine nm_iload_n (q := 26) d_X6_init_25 rfl rfl ?_
  refine nm_new (nc := 5) (ns := 496) (q := 29) (n := (n + 5)) (N := 2) [.null, .int 0] d_X6_init_26 rfl nw_X6_9 (fun r h => by cases h; rfl) fd_7 (fun _ => rfl) l8 rfl (Nat.succ_pos _) (Nat.le_of_ble_eq_true rfl) (Nat.le_of_ble_eq_true rfl) (fun d9 e9 => ?_)
  have l9 : d9.length = (n + 6) := nm_la e9 l8
  have t9 : d9[a]? = some (.inr (6, [.ref n, .int 0, .int 0])) := by rw [e9]; exact nm_l1 t8
  have x9_r : d9[n]? = some (.inl (4, 12, fun _ => 0, fun _ => 0, [some (n + 1), some (n + 3), none, none, none, none, none, none, none, none, none, none])) := by rw [e9]; exact nm_l1 y8
  have y9 : d9[(n + 5)]? = some (.inr (7, [.null, .int 0])) := by rw [e9]; exact nm_l3 l8
  have E9 : d9 = nm_X6_9 dh a n := by rw [e9, E8]; rfl
  refine nm_dup (q := 30) d_X6_init_29 rfl rfl ?_
  refine nm_callI (nc := 6) (ns := 498) (q := 33) (n := (n + 6)) (d' := 1) (mc' := 1) (ms' := 240) d_X6_init_30 rfl hl_X6_17 li_7 (Nat.le_of_ble_eq_true rfl) (Nat.le_of_ble_eq_true rfl) l9 rfl (Nat.succ_pos _) (Nat.le_of_ble_eq_true rfl) (Nat.le_of_ble_eq_true rfl) (cN_X7 l9 y9) (fun d10 e10 => ?_)
  have l10 : d10.length = (n + 7) := by rw [e10]; exact nl_X7 l9
  have t10 : d10[a]? = some (.inr (6, [.ref n, .int 0, .int 0])) := by rw [e10]; exact np_X7 (nm_o2 5 han) (nm_o3 6 han) t9
  have x10_r : d10[n]? = some (.inl (4, 12, fun _ => 0, fun _ => 0, [some (n + 1), some (n + 3), none, none, none, none, none, none, none, none, none, none])) := by rw [e10]; exact np_X7 (nm_o5 (n := n) (i := 0) (j := 5) (by decide)) (nm_o4 (n := n) (i := 0) (j := 6) (by decide)) x9_r
  have y10 : d10[(n + 5)]? = some (.inr (7, [.ref (n + 6), .int 0])) := by rw [e10]; exact nm_l2 (nm_l1 y9)
  have E10 : d10 = nm_X6_10 dh a n := by rw [e10, E9]; rfl
  refine nm_aastore (q := 34) (kk := 2) (rs1 := [some (n + 1), some (n + 3), some (n + 5), none, none, none, none, none, none, none, none, none]) d_X6_init_33 rfl x10_r y10 (sm_ib_of (by decide)) (by decide) (Nat.le_of_ble_eq_true rfl) rfl (fun d11 e11 => ?_)
  have l11 : d11.length = (n + 7) := nm_ls e11 l10
  have t11 : d11[a]? = some (.inr (6, [.ref n, .int 0, .int 0])) := by rw [e11]; exact nm_l4 (nm_o2 0 han) t10
  have y11 : d11[n]? = some (.inl (4, 12, fun _ => 0, fun _ => 0, [some (n + 1), some (n + 3), some (n + 5), none, none, none, none, none, none, none, none, none])) := by rw [e11]; exact nm_l2 x10_r
  have E11 : d11 = nm_X6_11 dh a n := by rw [e11, E10]; rfl
  exact cN_X6_p4 han hp l11 t11 y11 E11
set_option maxRecDepth 100000 in
set_option maxHeartbeats 1000000 in
theorem cN_X6_p2 {dh d5 : List nm_E} {a n : Nat} (han : a < n) (hp : 0 < n) (l5 : d5.length = (n + 3)) (t5 : d5[a]? = some (.inr (6, [.ref n, .int 0, .int 0]))) (y5 : d5[n]? = some (.inl (4, 12, fun _ => 0, fun _ => 0, [some (n + 1), none, none, none, none, none, none, none, none, none, none, none]))) (E5 : d5 = nm_X6_5 dh a n) : nm_J (md_X6_init, 3, 25, 2916, n, nm_X6 dh a n) 34 [some (.ref a), some (.int (0 : Int32))] [] d5 3 254 := by
  refine nm_iinc (q := 37) (v := 1) (lt := [some (.ref a), some (.int (1 : Int32))]) d_X6_init_34 rfl rfl (by decide) (Nat.le_of_ble_eq_true rfl) rfl rfl ?_
  refine nm_goto (t := 15) d_X6_init_37 rfl rfl ?_
  refine nm_iload_n (q := 16) d_X6_init_15 rfl rfl ?_
  refine nm_bipush (q := 18) (v := 12) d_X6_init_16 rfl (by decide) ?_
  refine nm_icmp_geF (q := 21) d_X6_init_18 rfl rfl (by decide) ?_
  refine nm_aload_n (q := 22) d_X6_init_21 rfl rfl ?_
  refine nm_getr (q := 25) d_X6_init_22 rfl fg_X6_11 t5 rfl ?_
  refine nm_iload_n (q := 26) d_X6_init_25 rfl rfl ?_
  refine nm_new (nc := 3) (ns := 254) (q := 29) (n := (n + 3)) (N := 2) [.null, .int 0] d_X6_init_26 rfl nw_X6_9 (fun r h => by cases h; rfl) fd_7 (fun _ => rfl) l5 rfl (Nat.succ_pos _) (Nat.le_of_ble_eq_true rfl) (Nat.le_of_ble_eq_true rfl) (fun d6 e6 => ?_)
  have l6 : d6.length = (n + 4) := nm_la e6 l5
  have t6 : d6[a]? = some (.inr (6, [.ref n, .int 0, .int 0])) := by rw [e6]; exact nm_l1 t5
  have x6_r : d6[n]? = some (.inl (4, 12, fun _ => 0, fun _ => 0, [some (n + 1), none, none, none, none, none, none, none, none, none, none, none])) := by rw [e6]; exact nm_l1 y5
  have y6 : d6[(n + 3)]? = some (.inr (7, [.null, .int 0])) := by rw [e6]; exact nm_l3 l5
  have E6 : d6 = nm_X6_6 dh a n := by rw [e6, E5]; rfl
  refine nm_dup (q := 30) d_X6_init_29 rfl rfl ?_
  refine nm_callI (nc := 4) (ns := 256) (q := 33) (n := (n + 4)) (d' := 1) (mc' := 1) (ms' := 240) d_X6_init_30 rfl hl_X6_17 li_7 (Nat.le_of_ble_eq_true rfl) (Nat.le_of_ble_eq_true rfl) l6 rfl (Nat.succ_pos _) (Nat.le_of_ble_eq_true rfl) (Nat.le_of_ble_eq_true rfl) (cN_X7 l6 y6) (fun d7 e7 => ?_)
  have l7 : d7.length = (n + 5) := by rw [e7]; exact nl_X7 l6
  have t7 : d7[a]? = some (.inr (6, [.ref n, .int 0, .int 0])) := by rw [e7]; exact np_X7 (nm_o2 3 han) (nm_o3 4 han) t6
  have x7_r : d7[n]? = some (.inl (4, 12, fun _ => 0, fun _ => 0, [some (n + 1), none, none, none, none, none, none, none, none, none, none, none])) := by rw [e7]; exact np_X7 (nm_o5 (n := n) (i := 0) (j := 3) (by decide)) (nm_o4 (n := n) (i := 0) (j := 4) (by decide)) x6_r
  have y7 : d7[(n + 3)]? = some (.inr (7, [.ref (n + 4), .int 0])) := by rw [e7]; exact nm_l2 (nm_l1 y6)
  have E7 : d7 = nm_X6_7 dh a n := by rw [e7, E6]; rfl
  refine nm_aastore (q := 34) (kk := 1) (rs1 := [some (n + 1), some (n + 3), none, none, none, none, none, none, none, none, none, none]) d_X6_init_33 rfl x7_r y7 (sm_ib_of (by decide)) (by decide) (Nat.le_of_ble_eq_true rfl) rfl (fun d8 e8 => ?_)
  have l8 : d8.length = (n + 5) := nm_ls e8 l7
  have t8 : d8[a]? = some (.inr (6, [.ref n, .int 0, .int 0])) := by rw [e8]; exact nm_l4 (nm_o2 0 han) t7
  have y8 : d8[n]? = some (.inl (4, 12, fun _ => 0, fun _ => 0, [some (n + 1), some (n + 3), none, none, none, none, none, none, none, none, none, none])) := by rw [e8]; exact nm_l2 x7_r
  have E8 : d8 = nm_X6_8 dh a n := by rw [e8, E7]; rfl
  exact cN_X6_p3 han hp l8 t8 y8 E8
set_option maxRecDepth 100000 in
set_option maxHeartbeats 1000000 in
theorem cN_X6_p1 {dh d2 : List nm_E} {a n : Nat} (han : a < n) (hp : 0 < n) (l2 : d2.length = (n + 1)) (t2 : d2[a]? = some (.inr (6, [.ref n, .int 0, .int 0]))) (x2_r1 : d2[n]? = some (.inl (4, 12, fun _ => 0, fun _ => 0, [none, none, none, none, none, none, none, none, none, none, none, none]))) (E2 : d2 = nm_X6_2 dh a n) : nm_J (md_X6_init, 3, 25, 2916, n, nm_X6 dh a n) 13 [some (.ref a), none] [] d2 1 12 := by
  refine nm_iconst (q := 14) (v := 0) d_X6_init_13 rfl (by decide) ?_
  refine nm_istore_n (q := 15) (lt := [some (.ref a), some (.int (0 : Int32))]) d_X6_init_14 rfl (Nat.le_of_ble_eq_true rfl) rfl rfl ?_
  refine nm_iload_n (q := 16) d_X6_init_15 rfl rfl ?_
  refine nm_bipush (q := 18) (v := 12) d_X6_init_16 rfl (by decide) ?_
  refine nm_icmp_geF (q := 21) d_X6_init_18 rfl rfl (by decide) ?_
  refine nm_aload_n (q := 22) d_X6_init_21 rfl rfl ?_
  refine nm_getr (q := 25) d_X6_init_22 rfl fg_X6_11 t2 rfl ?_
  refine nm_iload_n (q := 26) d_X6_init_25 rfl rfl ?_
  refine nm_new (nc := 1) (ns := 12) (q := 29) (n := (n + 1)) (N := 2) [.null, .int 0] d_X6_init_26 rfl nw_X6_9 (fun r h => by cases h; rfl) fd_7 (fun _ => rfl) l2 rfl (Nat.succ_pos _) (Nat.le_of_ble_eq_true rfl) (Nat.le_of_ble_eq_true rfl) (fun d3 e3 => ?_)
  have l3 : d3.length = (n + 2) := nm_la e3 l2
  have t3 : d3[a]? = some (.inr (6, [.ref n, .int 0, .int 0])) := by rw [e3]; exact nm_l1 t2
  have x3_r1 : d3[n]? = some (.inl (4, 12, fun _ => 0, fun _ => 0, [none, none, none, none, none, none, none, none, none, none, none, none])) := by rw [e3]; exact nm_l1 x2_r1
  have y3 : d3[(n + 1)]? = some (.inr (7, [.null, .int 0])) := by rw [e3]; exact nm_l3 l2
  have E3 : d3 = nm_X6_3 dh a n := by rw [e3, E2]; rfl
  refine nm_dup (q := 30) d_X6_init_29 rfl rfl ?_
  refine nm_callI (nc := 2) (ns := 14) (q := 33) (n := (n + 2)) (d' := 1) (mc' := 1) (ms' := 240) d_X6_init_30 rfl hl_X6_17 li_7 (Nat.le_of_ble_eq_true rfl) (Nat.le_of_ble_eq_true rfl) l3 rfl (Nat.succ_pos _) (Nat.le_of_ble_eq_true rfl) (Nat.le_of_ble_eq_true rfl) (cN_X7 l3 y3) (fun d4 e4 => ?_)
  have l4 : d4.length = (n + 3) := by rw [e4]; exact nl_X7 l3
  have t4 : d4[a]? = some (.inr (6, [.ref n, .int 0, .int 0])) := by rw [e4]; exact np_X7 (nm_o2 1 han) (nm_o3 2 han) t3
  have x4_r1 : d4[n]? = some (.inl (4, 12, fun _ => 0, fun _ => 0, [none, none, none, none, none, none, none, none, none, none, none, none])) := by rw [e4]; exact np_X7 (nm_o5 (n := n) (i := 0) (j := 1) (by decide)) (nm_o4 (n := n) (i := 0) (j := 2) (by decide)) x3_r1
  have y4 : d4[(n + 1)]? = some (.inr (7, [.ref (n + 2), .int 0])) := by rw [e4]; exact nm_l2 (nm_l1 y3)
  have E4 : d4 = nm_X6_4 dh a n := by rw [e4, E3]; rfl
  refine nm_aastore (q := 34) (kk := 0) (rs1 := [some (n + 1), none, none, none, none, none, none, none, none, none, none, none]) d_X6_init_33 rfl x4_r1 y4 (sm_ib_of (by decide)) (by decide) (Nat.le_of_ble_eq_true rfl) rfl (fun d5 e5 => ?_)
  have l5 : d5.length = (n + 3) := nm_ls e5 l4
  have t5 : d5[a]? = some (.inr (6, [.ref n, .int 0, .int 0])) := by rw [e5]; exact nm_l4 (nm_o2 0 han) t4
  have y5 : d5[n]? = some (.inl (4, 12, fun _ => 0, fun _ => 0, [some (n + 1), none, none, none, none, none, none, none, none, none, none, none])) := by rw [e5]; exact nm_l2 x4_r1
  have E5 : d5 = nm_X6_5 dh a n := by rw [e5, E4]; rfl
  exact cN_X6_p2 han hp l5 t5 y5 E5
set_option maxRecDepth 100000 in
set_option maxHeartbeats 1000000 in
theorem cN_X6 {dh : List nm_E} {a n : Nat} (hn : dh.length = n) (ha : dh[a]? = some (.inr (6, [.null, .int 0, .int 0])))  : nm_Ct yX6_init md_X6_init 3 25 2916 [.ref a] dh (nm_X6 dh a n) := by
  have han : a < n := by rw [← hn]; exact (List.getElem?_eq_some_iff.mp ha).1
  have hp : 0 < n := by omega
  refine nm_enter (ls0 := [some (.ref a), none]) 1 pn_X6 rfl rfl rfl (by decide) rfl hn ?_
  refine nm_aload_n (q := 1) d_X6_init_0 rfl rfl ?_
  refine nm_objinit (q := 4) d_X6_init_1 rfl ol_X6 oi_1 oi_2 (Nat.le_of_ble_eq_true rfl) (Nat.le_of_ble_eq_true rfl) ?_
  refine nm_aload_n (q := 5) d_X6_init_4 rfl rfl ?_
  refine nm_bipush (q := 7) (v := 12) d_X6_init_5 rfl (by decide) ?_
  refine nm_anew (nc := 0) (ns := 0) (q := 10) (n := n) (N := 12) d_X6_init_7 rfl al_X6_9 (by decide) (by decide) (Nat.le_of_ble_eq_true rfl) hn rfl hp (Nat.le_of_ble_eq_true rfl) (Nat.le_of_ble_eq_true rfl) (fun d1 e1 => ?_)
  have l1 : d1.length = (n + 1) := nm_la e1 hn
  have t1 : d1[a]? = some (.inr (6, [.null, .int 0, .int 0])) := by rw [e1]; exact nm_l1 ha
  have y1 : d1[n]? = some (.inl (4, 12, fun _ => 0, fun _ => 0, [none, none, none, none, none, none, none, none, none, none, none, none])) := by rw [e1]; exact nm_l3 hn
  have E1 : d1 = nm_X6_1 dh a n := by rw [e1]; rfl
  refine nm_putF (q := 13) (fs1 := [.ref n, .int 0, .int 0]) d_X6_init_10 rfl ff_X6_11 t1 (Nat.le_of_ble_eq_true rfl) (fun _ => ⟨rfl, rfl⟩) rfl (fun d2 e2 => ?_)
  have l2 : d2.length = (n + 1) := nm_ls e2 l1
  have x2_r1 : d2[n]? = some (.inl (4, 12, fun _ => 0, fun _ => 0, [none, none, none, none, none, none, none, none, none, none, none, none])) := by rw [e2]; exact nm_l4 (nm_o1 0 han) y1
  have t2 : d2[a]? = some (.inr (6, [.ref n, .int 0, .int 0])) := by rw [e2]; exact nm_l2 t1
  have E2 : d2 = nm_X6_2 dh a n := by rw [e2, E1]; rfl
  exact cN_X6_p1 han hp l2 t2 x2_r1 E2
