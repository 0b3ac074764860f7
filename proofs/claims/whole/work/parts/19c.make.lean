theorem d_X4_init_0 : decode cX4_init 0 = .ok (.aload_n 0, 1) := by decide +kernel
theorem d_X4_init_1 : decode cX4_init 1 = .ok (.invokespecial 3, 3) := by decide +kernel
theorem ol_X4 : Cond.methodLink RX4 3 objectInit ∈ sm_TB := sm_w (List.mem_of_getElem? (i := 161) (by decide +kernel)) rfl
theorem d_X4_init_4 : decode cX4_init 4 = .ok (.aload_n 0, 1) := by decide +kernel
theorem d_X4_init_5 : decode cX4_init 5 = .ok (.new 9, 3) := by decide +kernel
theorem nw_X4_9 : nm_LN RX4 9 1 := ⟨_, rfl, sm_w (List.mem_of_getElem? (i := 162) (by decide +kernel)) rfl, sm_w (List.mem_of_getElem? (i := 102) (by decide +kernel)) rfl, sm_w (List.mem_of_getElem? (i := 61) (by decide +kernel)) rfl⟩
theorem d_X4_init_8 : decode cX4_init 8 = .ok (.dup, 1) := by decide +kernel
theorem d_X4_init_9 : decode cX4_init 9 = .ok (.invokespecial 11, 3) := by decide +kernel
theorem hl_X4_11 : (RX4, 11, yX1_init) ∈ nm_nest ∨ Cond.methodLink RX4 11 yX1_init ∈ sm_TB := (Or.inl (by decide +kernel))
theorem d_X4_init_12 : decode cX4_init 12 = .ok (.putfield 12, 3) := by decide +kernel
theorem ff_X4_12 : nm_FF RX4 12 4 0 := ⟨_, rfl, by decide, sm_w (List.mem_of_getElem? (i := 185) (by decide +kernel)) rfl, rfl, rfl⟩
theorem d_X4_init_15 : decode cX4_init 15 = .ok (.aload_n 0, 1) := by decide +kernel
theorem d_X4_init_16 : decode cX4_init 16 = .ok (.new 18, 3) := by decide +kernel
theorem nw_X4_18 : nm_LN RX4 18 3 := ⟨_, rfl, sm_w (List.mem_of_getElem? (i := 164) (by decide +kernel)) rfl, sm_w (List.mem_of_getElem? (i := 165) (by decide +kernel)) rfl, sm_w (List.mem_of_getElem? (i := 63) (by decide +kernel)) rfl⟩
theorem d_X4_init_19 : decode cX4_init 19 = .ok (.dup, 1) := by decide +kernel
theorem d_X4_init_20 : decode cX4_init 20 = .ok (.invokespecial 20, 3) := by decide +kernel
theorem li_3 : nm_LI yX3_init md_X3_init := ⟨sm_w (List.mem_of_getElem? (i := 167) (by decide +kernel)) rfl, sm_w (List.mem_of_getElem? (i := 63) (by decide +kernel)) rfl, sm_w (List.mem_of_getElem? (i := 168) (by decide +kernel)) rfl, by decide, rfl, rfl, by decide +kernel⟩
theorem hl_X4_20 : (RX4, 20, yX3_init) ∈ nm_nest ∨ Cond.methodLink RX4 20 yX3_init ∈ sm_TB := (Or.inl (by decide +kernel))
theorem d_X4_init_23 : decode cX4_init 23 = .ok (.putfield 21, 3) := by decide +kernel
theorem ff_X4_21 : nm_FF RX4 21 4 1 := ⟨_, rfl, by decide, sm_w (List.mem_of_getElem? (i := 188) (by decide +kernel)) rfl, rfl, rfl⟩
theorem d_X4_init_26 : decode cX4_init 26 = .ok (.aload_n 0, 1) := by decide +kernel
theorem d_X4_init_27 : decode cX4_init 27 = .ok (.new 18, 3) := by decide +kernel
theorem d_X4_init_30 : decode cX4_init 30 = .ok (.dup, 1) := by decide +kernel
theorem d_X4_init_31 : decode cX4_init 31 = .ok (.invokespecial 20, 3) := by decide +kernel
theorem d_X4_init_34 : decode cX4_init 34 = .ok (.putfield 25, 3) := by decide +kernel
theorem ff_X4_25 : nm_FF RX4 25 4 2 := ⟨_, rfl, by decide, sm_w (List.mem_of_getElem? (i := 191) (by decide +kernel)) rfl, rfl, rfl⟩
theorem d_X4_init_37 : decode cX4_init 37 = .ok (.aload_n 0, 1) := by decide +kernel
theorem d_X4_init_38 : decode cX4_init 38 = .ok (.sipush 200, 3) := by decide +kernel
theorem d_X4_init_41 : decode cX4_init 41 = .ok (.newarray .int, 2) := by decide +kernel
theorem d_X4_init_43 : decode cX4_init 43 = .ok (.putfield 28, 3) := by decide +kernel
theorem ff_X4_28 : nm_FF RX4 28 4 3 := ⟨_, rfl, by decide, sm_w (List.mem_of_getElem? (i := 194) (by decide +kernel)) rfl, rfl, rfl⟩
theorem d_X4_init_46 : decode cX4_init 46 = .ok (.aload_n 0, 1) := by decide +kernel
theorem d_X4_init_47 : decode cX4_init 47 = .ok (.sipush 201, 3) := by decide +kernel
theorem d_X4_init_50 : decode cX4_init 50 = .ok (.newarray .int, 2) := by decide +kernel
theorem d_X4_init_52 : decode cX4_init 52 = .ok (.putfield 32, 3) := by decide +kernel
theorem ff_X4_32 : nm_FF RX4 32 4 4 := ⟨_, rfl, by decide, sm_w (List.mem_of_getElem? (i := 197) (by decide +kernel)) rfl, rfl, rfl⟩
theorem d_X4_init_55 : decode cX4_init 55 = .ok (.aload_n 0, 1) := by decide +kernel
theorem d_X4_init_56 : decode cX4_init 56 = .ok (.sipush 201, 3) := by decide +kernel
theorem d_X4_init_59 : decode cX4_init 59 = .ok (.newarray .int, 2) := by decide +kernel
theorem d_X4_init_61 : decode cX4_init 61 = .ok (.putfield 35, 3) := by decide +kernel
theorem ff_X4_35 : nm_FF RX4 35 4 5 := ⟨_, rfl, by decide, sm_w (List.mem_of_getElem? (i := 198) (by decide +kernel)) rfl, rfl, rfl⟩
theorem d_X4_init_64 : decode cX4_init 64 = .ok (.aload_n 0, 1) := by decide +kernel
theorem d_X4_init_65 : decode cX4_init 65 = .ok (.sipush 200, 3) := by decide +kernel
theorem d_X4_init_68 : decode cX4_init 68 = .ok (.newarray .int, 2) := by decide +kernel
theorem d_X4_init_70 : decode cX4_init 70 = .ok (.putfield 38, 3) := by decide +kernel
theorem ff_X4_38 : nm_FF RX4 38 4 6 := ⟨_, rfl, by decide, sm_w (List.mem_of_getElem? (i := 199) (by decide +kernel)) rfl, rfl, rfl⟩
theorem d_X4_init_73 : decode cX4_init 73 = .ok (.aload_n 0, 1) := by decide +kernel
theorem d_X4_init_74 : decode cX4_init 74 = .ok (.sipush 200, 3) := by decide +kernel
theorem d_X4_init_77 : decode cX4_init 77 = .ok (.newarray .int, 2) := by decide +kernel
theorem d_X4_init_79 : decode cX4_init 79 = .ok (.putfield 41, 3) := by decide +kernel
theorem ff_X4_41 : nm_FF RX4 41 4 7 := ⟨_, rfl, by decide, sm_w (List.mem_of_getElem? (i := 200) (by decide +kernel)) rfl, rfl, rfl⟩
theorem d_X4_init_82 : decode cX4_init 82 = .ok (.aload_n 0, 1) := by decide +kernel
theorem d_X4_init_83 : decode cX4_init 83 = .ok (.sipush 200, 3) := by decide +kernel
theorem d_X4_init_86 : decode cX4_init 86 = .ok (.newarray .int, 2) := by decide +kernel
theorem d_X4_init_88 : decode cX4_init 88 = .ok (.putfield 44, 3) := by decide +kernel
theorem ff_X4_44 : nm_FF RX4 44 4 8 := ⟨_, rfl, by decide, sm_w (List.mem_of_getElem? (i := 201) (by decide +kernel)) rfl, rfl, rfl⟩
theorem d_X4_init_91 : decode cX4_init 91 = .ok (.aload_n 0, 1) := by decide +kernel
theorem d_X4_init_92 : decode cX4_init 92 = .ok (.sipush 200, 3) := by decide +kernel
theorem d_X4_init_95 : decode cX4_init 95 = .ok (.newarray .int, 2) := by decide +kernel
theorem d_X4_init_97 : decode cX4_init 97 = .ok (.putfield 47, 3) := by decide +kernel
theorem ff_X4_47 : nm_FF RX4 47 4 9 := ⟨_, rfl, by decide, sm_w (List.mem_of_getElem? (i := 202) (by decide +kernel)) rfl, rfl, rfl⟩
theorem d_X4_init_100 : decode cX4_init 100 = .ok (.return_, 1) := by decide +kernel
def nm_X4_1 (dh : List nm_E) (a n : Nat) : List nm_E := dh ++ ([.inr (1, [.null, .null, .int 0])] : List nm_E)
theorem nl_X4_1 {dh : List nm_E} {a n : Nat} (h : dh.length = n) : (nm_X4_1 dh a n).length = n + 1 := by unfold nm_X4_1; rw [List.length_append, h]; rfl
theorem np_X4_1 {dh : List nm_E} {a n b : Nat} {e : nm_E} (hne : b ≠ a) (hb : b < n) (h : dh[b]? = some e) : (nm_X4_1 dh a n)[b]? = some e := nm_l5 h
def nm_X4_2 (dh : List nm_E) (a n : Nat) : List nm_E := nm_X1 (nm_X4_1 dh a n) n (n + 1)
theorem nl_X4_2 {dh : List nm_E} {a n : Nat} (h : dh.length = n) : (nm_X4_2 dh a n).length = n + 3 := nl_X1 (nl_X4_1 h)
theorem np_X4_2 {dh : List nm_E} {a n b : Nat} {e : nm_E} (hne : b ≠ a) (hb : b < n) (h : dh[b]? = some e) : (nm_X4_2 dh a n)[b]? = some e := np_X1 (by omega) (by omega) (np_X4_1 hne hb h)
def nm_X4_3 (dh : List nm_E) (a n : Nat) : List nm_E := (nm_X4_2 dh a n).set a (.inr (4, [.ref n, .null, .null, .null, .null, .null, .null, .null, .null, .null, .int 0, .int 0]) : nm_E)
theorem nl_X4_3 {dh : List nm_E} {a n : Nat} (h : dh.length = n) : (nm_X4_3 dh a n).length = n + 3 := by unfold nm_X4_3; rw [List.length_set]; exact nl_X4_2 h
theorem np_X4_3 {dh : List nm_E} {a n b : Nat} {e : nm_E} (hne : b ≠ a) (hb : b < n) (h : dh[b]? = some e) : (nm_X4_3 dh a n)[b]? = some e := nm_l4 (by omega) (np_X4_2 hne hb h)
def nm_X4_4 (dh : List nm_E) (a n : Nat) : List nm_E := (nm_X4_3 dh a n) ++ ([.inr (3, [.null, .null, .null])] : List nm_E)
theorem nl_X4_4 {dh : List nm_E} {a n : Nat} (h : dh.length = n) : (nm_X4_4 dh a n).length = n + 4 := by unfold nm_X4_4; rw [List.length_append, nl_X4_3 h]; rfl
theorem np_X4_4 {dh : List nm_E} {a n b : Nat} {e : nm_E} (hne : b ≠ a) (hb : b < n) (h : dh[b]? = some e) : (nm_X4_4 dh a n)[b]? = some e := nm_l5 (np_X4_3 hne hb h)
def nm_X4_5 (dh : List nm_E) (a n : Nat) : List nm_E := nm_X3 (nm_X4_4 dh a n) (n + 3) (n + 4)
theorem nl_X4_5 {dh : List nm_E} {a n : Nat} (h : dh.length = n) : (nm_X4_5 dh a n).length = n + 7 := nl_X3 (nl_X4_4 h)
theorem np_X4_5 {dh : List nm_E} {a n b : Nat} {e : nm_E} (hne : b ≠ a) (hb : b < n) (h : dh[b]? = some e) : (nm_X4_5 dh a n)[b]? = some e := np_X3 (by omega) (by omega) (np_X4_4 hne hb h)
def nm_X4_6 (dh : List nm_E) (a n : Nat) : List nm_E := (nm_X4_5 dh a n).set a (.inr (4, [.ref n, .ref (n + 3), .null, .null, .null, .null, .null, .null, .null, .null, .int 0, .int 0]) : nm_E)
theorem nl_X4_6 {dh : List nm_E} {a n : Nat} (h : dh.length = n) : (nm_X4_6 dh a n).length = n + 7 := by unfold nm_X4_6; rw [List.length_set]; exact nl_X4_5 h
theorem np_X4_6 {dh : List nm_E} {a n b : Nat} {e : nm_E} (hne : b ≠ a) (hb : b < n) (h : dh[b]? = some e) : (nm_X4_6 dh a n)[b]? = some e := nm_l4 (by omega) (np_X4_5 hne hb h)
def nm_X4_7 (dh : List nm_E) (a n : Nat) : List nm_E := (nm_X4_6 dh a n) ++ ([.inr (3, [.null, .null, .null])] : List nm_E)
theorem nl_X4_7 {dh : List nm_E} {a n : Nat} (h : dh.length = n) : (nm_X4_7 dh a n).length = n + 8 := by unfold nm_X4_7; rw [List.length_append, nl_X4_6 h]; rfl
theorem np_X4_7 {dh : List nm_E} {a n b : Nat} {e : nm_E} (hne : b ≠ a) (hb : b < n) (h : dh[b]? = some e) : (nm_X4_7 dh a n)[b]? = some e := nm_l5 (np_X4_6 hne hb h)
def nm_X4_8 (dh : List nm_E) (a n : Nat) : List nm_E := nm_X3 (nm_X4_7 dh a n) (n + 7) (n + 8)
theorem nl_X4_8 {dh : List nm_E} {a n : Nat} (h : dh.length = n) : (nm_X4_8 dh a n).length = n + 11 := nl_X3 (nl_X4_7 h)
theorem np_X4_8 {dh : List nm_E} {a n b : Nat} {e : nm_E} (hne : b ≠ a) (hb : b < n) (h : dh[b]? = some e) : (nm_X4_8 dh a n)[b]? = some e := np_X3 (by omega) (by omega) (np_X4_7 hne hb h)
def nm_X4_9 (dh : List nm_E) (a n : Nat) : List nm_E := (nm_X4_8 dh a n).set a (.inr (4, [.ref n, .ref (n + 3), .ref (n + 7), .null, .null, .null, .null, .null, .null, .null, .int 0, .int 0]) : nm_E)
theorem nl_X4_9 {dh : List nm_E} {a n : Nat} (h : dh.length = n) : (nm_X4_9 dh a n).length = n + 11 := by unfold nm_X4_9; rw [List.length_set]; exact nl_X4_8 h
theorem np_X4_9 {dh : List nm_E} {a n b : Nat} {e : nm_E} (hne : b ≠ a) (hb : b < n) (h : dh[b]? = some e) : (nm_X4_9 dh a n)[b]? = some e := nm_l4 (by omega) (np_X4_8 hne hb h)
def nm_X4_10 (dh : List nm_E) (a n : Nat) : List nm_E := (nm_X4_9 dh a n) ++ ([.inl (0, 200, fun _ => 0, fun _ => 0, [])] : List nm_E)
theorem nl_X4_10 {dh : List nm_E} {a n : Nat} (h : dh.length = n) : (nm_X4_10 dh a n).length = n + 12 := by unfold nm_X4_10; rw [List.length_append, nl_X4_9 h]; rfl
theorem np_X4_10 {dh : List nm_E} {a n b : Nat} {e : nm_E} (hne : b ≠ a) (hb : b < n) (h : dh[b]? = some e) : (nm_X4_10 dh a n)[b]? = some e := nm_l5 (np_X4_9 hne hb h)
def nm_X4_11 (dh : List nm_E) (a n : Nat) : List nm_E := (nm_X4_10 dh a n).set a (.inr (4, [.ref n, .ref (n + 3), .ref (n + 7), .ref (n + 11), .null, .null, .null, .null, .null, .null, .int 0, .int 0]) : nm_E)
theorem nl_X4_11 {dh : List nm_E} {a n : Nat} (h : dh.length = n) : (nm_X4_11 dh a n).length = n + 12 := by unfold nm_X4_11; rw [List.length_set]; exact nl_X4_10 h
theorem np_X4_11 {dh : List nm_E} {a n b : Nat} {e : nm_E} (hne : b ≠ a) (hb : b < n) (h : dh[b]? = some e) : (nm_X4_11 dh a n)[b]? = some e := nm_l4 (by omega) (np_X4_10 hne hb h)
def nm_X4_12 (dh : List nm_E) (a n : Nat) : List nm_E := (nm_X4_11 dh a n) ++ ([.inl (0, 201, fun _ => 0, fun _ => 0, [])] : List nm_E)
theorem nl_X4_12 {dh : List nm_E} {a n : Nat} (h : dh.length = n) : (nm_X4_12 dh a n).length = n + 13 := by unfold nm_X4_12; rw [List.length_append, nl_X4_11 h]; rfl
theorem np_X4_12 {dh : List nm_E} {a n b : Nat} {e : nm_E} (hne : b ≠ a) (hb : b < n) (h : dh[b]? = some e) : (nm_X4_12 dh a n)[b]? = some e := nm_l5 (np_X4_11 hne hb h)
def nm_X4_13 (dh : List nm_E) (a n : Nat) : List nm_E := (nm_X4_12 dh a n).set a (.inr (4, [.ref n, .ref (n + 3), .ref (n + 7), .ref (n + 11), .ref (n + 12), .null, .null, .null, .null, .null, .int 0, .int 0]) : nm_E)
theorem nl_X4_13 {dh : List nm_E} {a n : Nat} (h : dh.length = n) : (nm_X4_13 dh a n).length = n + 13 := by unfold nm_X4_13; rw [List.length_set]; exact nl_X4_12 h
theorem np_X4_13 {dh : List nm_E} {a n b : Nat} {e : nm_E} (hne : b ≠ a) (hb : b < n) (h : dh[b]? = some e) : (nm_X4_13 dh a n)[b]? = some e := nm_l4 (by omega) (np_X4_12 hne hb h)
def nm_X4_14 (dh : List nm_E) (a n : Nat) : List nm_E := (nm_X4_13 dh a n) ++ ([.inl (0, 201, fun _ => 0, fun _ => 0, [])] : List nm_E)
theorem nl_X4_14 {dh : List nm_E} {a n : Nat} (h : dh.length = n) : (nm_X4_14 dh a n).length = n + 14 := by unfold nm_X4_14; rw [List.length_append, nl_X4_13 h]; rfl
theorem np_X4_14 {dh : List nm_E} {a n b : Nat} {e : nm_E} (hne : b ≠ a) (hb : b < n) (h : dh[b]? = some e) : (nm_X4_14 dh a n)[b]? = some e := nm_l5 (np_X4_13 hne hb h)
def nm_X4_15 (dh : List nm_E) (a n : Nat) : List nm_E := (nm_X4_14 dh a n).set a (.inr (4, [.ref n, .ref (n + 3), .ref (n + 7), .ref (n + 11), .ref (n + 12), .ref (n + 13), .null, .null, .null, .null, .int 0, .int 0]) : nm_E)
theorem nl_X4_15 {dh : List nm_E} {a n : Nat} (h : dh.length = n) : (nm_X4_15 dh a n).length = n + 14 := by unfold nm_X4_15; rw [List.length_set]; exact nl_X4_14 h
theorem np_X4_15 {dh : List nm_E} {a n b : Nat} {e : nm_E} (hne : b ≠ a) (hb : b < n) (h : dh[b]? = some e) : (nm_X4_15 dh a n)[b]? = some e := nm_l4 (by omega) (np_X4_14 hne hb h)
def nm_X4_16 (dh : List nm_E) (a n : Nat) : List nm_E := (nm_X4_15 dh a n) ++ ([.inl (0, 200, fun _ => 0, fun _ => 0, [])] : List nm_E)
theorem nl_X4_16 {dh : List nm_E} {a n : Nat} (h : dh.length = n) : (nm_X4_16 dh a n).length = n + 15 := by unfold nm_X4_16; rw [List.length_append, nl_X4_15 h]; rfl
theorem np_X4_16 {dh : List nm_E} {a n b : Nat} {e : nm_E} (hne : b ≠ a) (hb : b < n) (h : dh[b]? = some e) : (nm_X4_16 dh a n)[b]? = some e := nm_l5 (np_X4_15 hne hb h)
def nm_X4_17 (dh : List nm_E) (a n : Nat) : List nm_E := (nm_X4_16 dh a n).set a (.inr (4, [.ref n, .ref (n + 3), .ref (n + 7), .ref (n + 11), .ref (n + 12), .ref (n + 13), .ref (n + 14), .null, .null, .null, .int 0, .int 0]) : nm_E)
theorem nl_X4_17 {dh : List nm_E} {a n : Nat} (h : dh.length = n) : (nm_X4_17 dh a n).length = n + 15 := by unfold nm_X4_17; rw [List.length_set]; exact nl_X4_16 h
theorem np_X4_17 {dh : List nm_E} {a n b : Nat} {e : nm_E} (hne : b ≠ a) (hb : b < n) (h : dh[b]? = some e) : (nm_X4_17 dh a n)[b]? = some e := nm_l4 (by omega) (np_X4_16 hne hb h)
def nm_X4_18 (dh : List nm_E) (a n : Nat) : List nm_E := (nm_X4_17 dh a n) ++ ([.inl (0, 200, fun _ => 0, fun _ => 0, [])] : List nm_E)
theorem nl_X4_18 {dh : List nm_E} {a n : Nat} (h : dh.length = n) : (nm_X4_18 dh a n).length = n + 16 := by unfold nm_X4_18; rw [List.length_append, nl_X4_17 h]; rfl
theorem np_X4_18 {dh : List nm_E} {a n b : Nat} {e : nm_E} (hne : b ≠ a) (hb : b < n) (h : dh[b]? = some e) : (nm_X4_18 dh a n)[b]? = some e := nm_l5 (np_X4_17 hne hb h)
def nm_X4_19 (dh : List nm_E) (a n : Nat) : List nm_E := (nm_X4_18 dh a n).set a (.inr (4, [.ref n, .ref (n + 3), .ref (n + 7), .ref (n + 11), .ref (n + 12), .ref (n + 13), .ref (n + 14), .ref (n + 15), .null, .null, .int 0, .int 0]) : nm_E)
theorem nl_X4_19 {dh : List nm_E} {a n : Nat} (h : dh.length = n) : (nm_X4_19 dh a n).length = n + 16 := by unfold nm_X4_19; rw [List.length_set]; exact nl_X4_18 h
theorem np_X4_19 {dh : List nm_E} {a n b : Nat} {e : nm_E} (hne : b ≠ a) (hb : b < n) (h : dh[b]? = some e) : (nm_X4_19 dh a n)[b]? = some e := nm_l4 (by omega) (np_X4_18 hne hb h)
def nm_X4_20 (dh : List nm_E) (a n : Nat) : List nm_E := (nm_X4_19 dh a n) ++ ([.inl (0, 200, fun _ => 0, fun _ => 0, [])] : List nm_E)
theorem nl_X4_20 {dh : List nm_E} {a n : Nat} (h : dh.length = n) : (nm_X4_20 dh a n).length = n + 17 := by unfold nm_X4_20; rw [List.length_append, nl_X4_19 h]; rfl
theorem np_X4_20 {dh : List nm_E} {a n b : Nat} {e : nm_E} (hne : b ≠ a) (hb : b < n) (h : dh[b]? = some e) : (nm_X4_20 dh a n)[b]? = some e := nm_l5 (np_X4_19 hne hb h)
def nm_X4_21 (dh : List nm_E) (a n : Nat) : List nm_E := (nm_X4_20 dh a n).set a (.inr (4, [.ref n, .ref (n + 3), .ref (n + 7), .ref (n + 11), .ref (n + 12), .ref (n + 13), .ref (n + 14), .ref (n + 15), .ref (n + 16), .null, .int 0, .int 0]) : nm_E)
theorem nl_X4_21 {dh : List nm_E} {a n : Nat} (h : dh.length = n) : (nm_X4_21 dh a n).length = n + 17 := by unfold nm_X4_21; rw [List.length_set]; exact nl_X4_20 h
theorem np_X4_21 {dh : List nm_E} {a n b : Nat} {e : nm_E} (hne : b ≠ a) (hb : b < n) (h : dh[b]? = some e) : (nm_X4_21 dh a n)[b]? = some e := nm_l4 (by omega) (np_X4_20 hne hb h)
def nm_X4_22 (dh : List nm_E) (a n : Nat) : List nm_E := (nm_X4_21 dh a n) ++ ([.inl (0, 200, fun _ => 0, fun _ => 0, [])] : List nm_E)
theorem nl_X4_22 {dh : List nm_E} {a n : Nat} (h : dh.length = n) : (nm_X4_22 dh a n).length = n + 18 := by unfold nm_X4_22; rw [List.length_append, nl_X4_21 h]; rfl
theorem np_X4_22 {dh : List nm_E} {a n b : Nat} {e : nm_E} (hne : b ≠ a) (hb : b < n) (h : dh[b]? = some e) : (nm_X4_22 dh a n)[b]? = some e := nm_l5 (np_X4_21 hne hb h)
def nm_X4_23 (dh : List nm_E) (a n : Nat) : List nm_E := (nm_X4_22 dh a n).set a (.inr (4, [.ref n, .ref (n + 3), .ref (n + 7), .ref (n + 11), .ref (n + 12), .ref (n + 13), .ref (n + 14), .ref (n + 15), .ref (n + 16), .ref (n + 17), .int 0, .int 0]) : nm_E)
theorem nl_X4_23 {dh : List nm_E} {a n : Nat} (h : dh.length = n) : (nm_X4_23 dh a n).length = n + 18 := by unfold nm_X4_23; rw [List.length_set]; exact nl_X4_22 h
theorem np_X4_23 {dh : List nm_E} {a n b : Nat} {e : nm_E} (hne : b ≠ a) (hb : b < n) (h : dh[b]? = some e) : (nm_X4_23 dh a n)[b]? = some e := nm_l4 (by omega) (np_X4_22 hne hb h)
abbrev nm_X4 (dh : List nm_E) (a n : Nat) : List nm_E := nm_X4_23 dh a n
theorem nl_X4 {dh : List nm_E} {a n : Nat} (h : dh.length = n) : (nm_X4 dh a n).length = n + 18 := nl_X4_23 h
theorem np_X4 {dh : List nm_E} {a n b : Nat} {e : nm_E} (hne : b ≠ a) (hb : b < n) (h : dh[b]? = some e) : (nm_X4 dh a n)[b]? = some e := np_X4_23 hne hb h
set_option maxRecDepth 100000 in
set_option maxHeartbeats 1000000 in
theorem cN_X4_p9 {dh d21 : List nm_E} {a n : Nat} (han : a < n) (hp : 0 < n) (l21 : d21.length = (n + 17)) (t21 : d21[a]? = some (.inr (4, [.ref n, .ref (n + 3), .ref (n + 7), .ref (n + 11), .ref (n + 12), .ref (n + 13), .ref (n + 14), .ref (n + 15), .ref (n + 16), .null, .int 0, .int 0]))) (E21 : d21 = nm_X4_21 dh a n) : nm_J (md_X4_init, 3, 18, 3013, n, nm_X4 dh a n) 91 [some (.ref a)] [] d21 17 2813 := by
  refine nm_aload_n (q := 92) d_X4_init_91 rfl rfl ?_
  refine nm_sipush (q := 95) (v := 200) d_X4_init_92 rfl (by decide) ?_
  refine nm_newarray (nc := 17) (ns := 2813) (q := 97) (n := (n + 17)) (N := 200) d_X4_init_95 rfl ac_0 (Or.inl ⟨rfl, rfl⟩) (by decide) (by decide) (Nat.le_of_ble_eq_true rfl) l21 rfl (Nat.succ_pos _) (Nat.le_of_ble_eq_true rfl) (Nat.le_of_ble_eq_true rfl) (fun d22 e22 => ?_)
  have l22 : d22.length = (n + 18) := nm_la e22 l21
  have t22 : d22[a]? = some (.inr (4, [.ref n, .ref (n + 3), .ref (n + 7), .ref (n + 11), .ref (n + 12), .ref (n + 13), .ref (n + 14), .ref (n + 15), .ref (n + 16), .null, .int 0, .int 0])) := by rw [e22]; exact nm_l1 t21
  have E22 : d22 = nm_X4_22 dh a n := by rw [e22, E21]; rfl
  refine nm_putF (q := 100) (fs1 := [.ref n, .ref (n + 3), .ref (n + 7), .ref (n + 11), .ref (n + 12), .ref (n + 13), .ref (n + 14), .ref (n + 15), .ref (n + 16), .ref (n + 17), .int 0, .int 0]) d_X4_init_97 rfl ff_X4_47 t22 (Nat.le_of_ble_eq_true rfl) (fun _ => ⟨rfl, rfl⟩) rfl (fun d23 e23 => ?_)
  have l23 : d23.length = (n + 18) := nm_ls e23 l22
  have t23 : d23[a]? = some (.inr (4, [.ref n, .ref (n + 3), .ref (n + 7), .ref (n + 11), .ref (n + 12), .ref (n + 13), .ref (n + 14), .ref (n + 15), .ref (n + 16), .ref (n + 17), .int 0, .int 0])) := by rw [e23]; exact nm_l2 t22
  have E23 : d23 = nm_X4_23 dh a n := by rw [e23, E22]; rfl
  exact nm_ret (nc := 18) (ns := 3013) d_X4_init_100 rfl rfl (by dsimp only; exact E23)
set_option maxRecDepth 100000 in
set_option maxHeartbeats 1000000 in
theorem cN_X4_p8 {dh d19 : List nm_E} {a n : Nat} (han : a < n) (hp : 0 < n) (l19 : d19.length = (n + 16)) (t19 : d19[a]? = some (.inr (4, [.ref n, .ref (n + 3), .ref (n + 7), .ref (n + 11), .ref (n + 12), .ref (n + 13), .ref (n + 14), .ref (n + 15), .null, .null, .int 0, .int 0]))) (E19 : d19 = nm_X4_19 dh a n) : nm_J (md_X4_init, 3, 18, 3013, n, nm_X4 dh a n) 82 [some (.ref a)] [] d19 16 2613 := by
  refine nm_aload_n (q := 83) d_X4_init_82 rfl rfl ?_
  refine nm_sipush (q := 86) (v := 200) d_X4_init_83 rfl (by decide) ?_
  refine nm_newarray (nc := 16) (ns := 2613) (q := 88) (n := (n + 16)) (N := 200) d_X4_init_86 rfl ac_0 (Or.inl ⟨rfl, rfl⟩) (by decide) (by decide) (Nat.le_of_ble_eq_true rfl) l19 rfl (Nat.succ_pos _) (Nat.le_of_ble_eq_true rfl) (Nat.le_of_ble_eq_true rfl) (fun d20 e20 => ?_)
  have l20 : d20.length = (n + 17) := nm_la e20 l19
  have t20 : d20[a]? = some (.inr (4, [.ref n, .ref (n + 3), .ref (n + 7), .ref (n + 11), .ref (n + 12), .ref (n + 13), .ref (n + 14), .ref (n + 15), .null, .null, .int 0, .int 0])) := by rw [e20]; exact nm_l1 t19
  have E20 : d20 = nm_X4_20 dh a n := by rw [e20, E19]; rfl
  refine nm_putF (q := 91) (fs1 := [.ref n, .ref (n + 3), .ref (n + 7), .ref (n + 11), .ref (n + 12), .ref (n + 13), .ref (n + 14), .ref (n + 15), .ref (n + 16), .null, .int 0, .int 0]) d_X4_init_88 rfl ff_X4_44 t20 (Nat.le_of_ble_eq_true rfl) (fun _ => ⟨rfl, rfl⟩) rfl (fun d21 e21 => ?_)
  have l21 : d21.length = (n + 17) := nm_ls e21 l20
  have t21 : d21[a]? = some (.inr (4, [.ref n, .ref (n + 3), .ref (n + 7), .ref (n + 11), .ref (n + 12), .ref (n + 13), .ref (n + 14), .ref (n + 15), .ref (n + 16), .null, .int 0, .int 0])) := by rw [e21]; exact nm_l2 t20
  have E21 : d21 = nm_X4_21 dh a n := by rw [e21, E20]; rfl
  exact cN_X4_p9 han hp l21 t21 E21
set_option maxRecDepth 100000 in
set_option maxHeartbeats 1000000 in
theorem cN_X4_p7 {dh d17 : List nm_E} {a n : Nat} (han : a < n) (hp : 0 < n) (l17 : d17.length = (n + 15)) (t17 : d17[a]? = some (.inr (4, [.ref n, .ref (n + 3), .ref (n + 7), .ref (n + 11), .ref (n + 12), .ref (n + 13), .ref (n + 14), .null, .null, .null, .int 0, .int 0]))) (E17 : d17 = nm_X4_17 dh a n) : nm_J (md_X4_init, 3, 18, 3013, n, nm_X4 dh a n) 73 [some (.ref a)] [] d17 15 2413 := by
  refine nm_aload_n (q := 74) d_X4_init_73 rfl rfl ?_
  refine nm_sipush (q := 77) (v := 200) d_X4_init_74 rfl (by decide) ?_
  refine nm_newarray (nc := 15) (ns := 2413) (q := 79) (n := (n + 15)) (N := 200) d_X4_init_77 rfl ac_0 (Or.inl ⟨rfl, rfl⟩) (by decide) (by decide) (Nat.le_of_ble_eq_true rfl) l17 rfl (Nat.succ_pos _) (Nat.le_of_ble_eq_true rfl) (Nat.le_of_ble_eq_true rfl) (fun d18 e18 => ?_)
  have l18 : d18.length = (n + 16) := nm_la e18 l17
  have t18 : d18[a]? = some (.inr (4, [.ref n, .ref (n + 3), .ref (n + 7), .ref (n + 11), .ref (n + 12), .ref (n + 13), .ref (n + 14), .null, .null, .null, .int 0, .int 0])) := by rw [e18]; exact nm_l1 t17
  have E18 : d18 = nm_X4_18 dh a n := by rw [e18, E17]; rfl
  refine nm_putF (q := 82) (fs1 := [.ref n, .ref (n + 3), .ref (n + 7), .ref (n + 11), .ref (n + 12), .ref (n + 13), .ref (n + 14), .ref (n + 15), .null, .null, .int 0, .int 0]) d_X4_init_79 rfl ff_X4_41 t18 (Nat.le_of_ble_eq_true rfl) (fun _ => ⟨rfl, rfl⟩) rfl (fun d19 e19 => ?_)
  have l19 : d19.length = (n + 16) := nm_ls e19 l18
  have t19 : d19[a]? = some (.inr (4, [.ref n, .ref (n + 3), .ref (n + 7), .ref (n + 11), .ref (n + 12), .ref (n + 13), .ref (n + 14), .ref (n + 15), .null, .null, .int 0, .int 0])) := by rw [e19]; exact nm_l2 t18
  have E19 : d19 = nm_X4_19 dh a n := by rw [e19, E18]; rfl
  exact cN_X4_p8 han hp l19 t19 E19
set_option maxRecDepth 100000 in
set_option maxHeartbeats 1000000 in
theorem cN_X4_p6 {dh d15 : List nm_E} {a n : Nat} (han : a < n) (hp : 0 < n) (l15 : d15.length = (n + 14)) (t15 : d15[a]? = some (.inr (4, [.ref n, .ref (n + 3), .ref (n + 7), .ref (n + 11), .ref (n + 12), .ref (n + 13), .null, .null, .null, .null, .int 0, .int 0]))) (E15 : d15 = nm_X4_15 dh a n) : nm_J (md_X4_init, 3, 18, 3013, n, nm_X4 dh a n) 64 [some (.ref a)] [] d15 14 2213 := by
  refine nm_aload_n (q := 65) d_X4_init_64 rfl rfl ?_
  refine nm_sipush (q := 68) (v := 200) d_X4_init_65 rfl (by decide) ?_
  refine nm_newarray (nc := 14) (ns := 2213) (q := 70) (n := (n + 14)) (N := 200) d_X4_init_68 rfl ac_0 (Or.inl ⟨rfl, rfl⟩) (by decide) (by decide) (Nat.le_of_ble_eq_true rfl) l15 rfl (Nat.succ_pos _) (Nat.le_of_ble_eq_true rfl) (Nat.le_of_ble_eq_true rfl) (fun d16 e16 => ?_)
  have l16 : d16.length = (n + 15) := nm_la e16 l15
  have t16 : d16[a]? = some (.inr (4, [.ref n, .ref (n + 3), .ref (n + 7), .ref (n + 11), .ref (n + 12), .ref (n + 13), .null, .null, .null, .null, .int 0, .int 0])) := by rw [e16]; exact nm_l1 t15
  have E16 : d16 = nm_X4_16 dh a n := by rw [e16, E15]; rfl
  refine nm_putF (q := 73) (fs1 := [.ref n, .ref (n + 3), .ref (n + 7), .ref (n + 11), .ref (n + 12), .ref (n + 13), .ref (n + 14), .null, .null, .null, .int 0, .int 0]) d_X4_init_70 rfl ff_X4_38 t16 (Nat.le_of_ble_eq_true rfl) (fun _ => ⟨rfl, rfl⟩) rfl (fun d17 e17 => ?_)
  have l17 : d17.length = (n + 15) := nm_ls e17 l16
  have t17 : d17[a]? = some (.inr (4, [.ref n, .ref (n + 3), .ref (n + 7), .ref (n + 11), .ref (n + 12), .ref (n + 13), .ref (n + 14), .null, .null, .null, .int 0, .int 0])) := by rw [e17]; exact nm_l2 t16
  have E17 : d17 = nm_X4_17 dh a n := by rw [e17, E16]; rfl
  exact cN_X4_p7 han hp l17 t17 E17
set_option maxRecDepth 100000 in
set_option maxHeartbeats 1000000 in
theorem cN_X4_p5 {dh d13 : List nm_E} {a n : Nat} (han : a < n) (hp : 0 < n) (l13 : d13.length = (n + 13)) (t13 : d13[a]? = some (.inr (4, [.ref n, .ref (n + 3), .ref (n + 7), .ref (n + 11), .ref (n + 12), .null, .null, .null, .null, .null, .int 0, .int 0]))) (E13 : d13 = nm_X4_13 dh a n) : nm_J (md_X4_init, 3, 18, 3013, n, nm_X4 dh a n) 55 [some (.ref a)] [] d13 13 2012 := by
  refine nm_aload_n (q := 56) d_X4_init_55 rfl rfl ?_
  refine nm_sipush (q := 59) (v := 201) d_X4_init_56 rfl (by decide) ?_
  refine nm_newarray (nc := 13) (ns := 2012) (q := 61) (n := (n + 13)) (N := 201) d_X4_init_59 rfl ac_0 (Or.inl ⟨rfl, rfl⟩) (by decide) (by decide) (Nat.le_of_ble_eq_true rfl) l13 rfl (Nat.succ_pos _) (Nat.le_of_ble_eq_true rfl) (Nat.le_of_ble_eq_true rfl) (fun d14 e14 => ?_)
  have l14 : d14.length = (n + 14) := nm_la e14 l13
  have t14 : d14[a]? = some (.inr (4, [.ref n, .ref (n + 3), .ref (n + 7), .ref (n + 11), .ref (n + 12), .null, .null, .null, .null, .null, .int 0, .int 0])) := by rw [e14]; exact nm_l1 t13
  have E14 : d14 = nm_X4_14 dh a n := by rw [e14, E13]; rfl
  refine nm_putF (q := 64) (fs1 := [.ref n, .ref (n + 3), .ref (n + 7), .ref (n + 11), .ref (n + 12), .ref (n + 13), .null, .null, .null, .null, .int 0, .int 0]) d_X4_init_61 rfl ff_X4_35 t14 (Nat.le_of_ble_eq_true rfl) (fun _ => ⟨rfl, rfl⟩) rfl (fun d15 e15 => ?_)
  have l15 : d15.length = (n + 14) := nm_ls e15 l14
  have t15 : d15[a]? = some (.inr (4, [.ref n, .ref (n + 3), .ref (n + 7), .ref (n + 11), .ref (n + 12), .ref (n + 13), .null, .null, .null, .null, .int 0, .int 0])) := by rw [e15]; exact nm_l2 t14
  have E15 : d15 = nm_X4_15 dh a n := by rw [e15, E14]; rfl
  exact cN_X4_p6 han hp l15 t15 E15
set_option maxRecDepth 100000 in
set_option maxHeartbeats 1000000 in
theorem cN_X4_p4 {dh d11 : List nm_E} {a n : Nat} (han : a < n) (hp : 0 < n) (l11 : d11.length = (n + 12)) (t11 : d11[a]? = some (.inr (4, [.ref n, .ref (n + 3), .ref (n + 7), .ref (n + 11), .null, .null, .null, .null, .null, .null, .int 0, .int 0]))) (E11 : d11 = nm_X4_11 dh a n) : nm_J (md_X4_init, 3, 18, 3013, n, nm_X4 dh a n) 46 [some (.ref a)] [] d11 12 1811 := by
  refine nm_aload_n (q := 47) d_X4_init_46 rfl rfl ?_
  refine nm_sipush (q := 50) (v := 201) d_X4_init_47 rfl (by decide) ?_
  refine nm_newarray (nc := 12) (ns := 1811) (q := 52) (n := (n + 12)) (N := 201) d_X4_init_50 rfl ac_0 (Or.inl ⟨rfl, rfl⟩) (by decide) (by decide) (Nat.le_of_ble_eq_true rfl) l11 rfl (Nat.succ_pos _) (Nat.le_of_ble_eq_true rfl) (Nat.le_of_ble_eq_true rfl) (fun d12 e12 => ?_)
  have l12 : d12.length = (n + 13) := nm_la e12 l11
  have t12 : d12[a]? = some (.inr (4, [.ref n, .ref (n + 3), .ref (n + 7), .ref (n + 11), .null, .null, .null, .null, .null, .null, .int 0, .int 0])) := by rw [e12]; exact nm_l1 t11
  have E12 : d12 = nm_X4_12 dh a n := by rw [e12, E11]; rfl
  refine nm_putF (q := 55) (fs1 := [.ref n, .ref (n + 3), .ref (n + 7), .ref (n + 11), .ref (n + 12), .null, .null, .null, .null, .null, .int 0, .int 0]) d_X4_init_52 rfl ff_X4_32 t12 (Nat.le_of_ble_eq_true rfl) (fun _ => ⟨rfl, rfl⟩) rfl (fun d13 e13 => ?_)
  have l13 : d13.length = (n + 13) := nm_ls e13 l12
  have t13 : d13[a]? = some (.inr (4, [.ref n, .ref (n + 3), .ref (n + 7), .ref (n + 11), .ref (n + 12), .null, .null, .null, .null, .null, .int 0, .int 0])) := by rw [e13]; exact nm_l2 t12
  have E13 : d13 = nm_X4_13 dh a n := by rw [e13, E12]; rfl
  exact cN_X4_p5 han hp l13 t13 E13
set_option maxRecDepth 100000 in
set_option maxHeartbeats 1000000 in
theorem cN_X4_p3 {dh d9 : List nm_E} {a n : Nat} (han : a < n) (hp : 0 < n) (l9 : d9.length = (n + 11)) (t9 : d9[a]? = some (.inr (4, [.ref n, .ref (n + 3), .ref (n + 7), .null, .null, .null, .null, .null, .null, .null, .int 0, .int 0]))) (E9 : d9 = nm_X4_9 dh a n) : nm_J (md_X4_init, 3, 18, 3013, n, nm_X4 dh a n) 37 [some (.ref a)] [] d9 11 1611 := by
  refine nm_aload_n (q := 38) d_X4_init_37 rfl rfl ?_
  refine nm_sipush (q := 41) (v := 200) d_X4_init_38 rfl (by decide) ?_
  refine nm_newarray (nc := 11) (ns := 1611) (q := 43) (n := (n + 11)) (N := 200) d_X4_init_41 rfl ac_0 (Or.inl ⟨rfl, rfl⟩) (by decide) (by decide) (Nat.le_of_ble_eq_true rfl) l9 rfl (Nat.succ_pos _) (Nat.le_of_ble_eq_true rfl) (Nat.le_of_ble_eq_true rfl) (fun d10 e10 => ?_)
  have l10 : d10.length = (n + 12) := nm_la e10 l9
  have t10 : d10[a]? = some (.inr (4, [.ref n, .ref (n + 3), .ref (n + 7), .null, .null, .null, .null, .null, .null, .null, .int 0, .int 0])) := by rw [e10]; exact nm_l1 t9
  have E10 : d10 = nm_X4_10 dh a n := by rw [e10, E9]; rfl
  refine nm_putF (q := 46) (fs1 := [.ref n, .ref (n + 3), .ref (n + 7), .ref (n + 11), .null, .null, .null, .null, .null, .null, .int 0, .int 0]) d_X4_init_43 rfl ff_X4_28 t10 (Nat.le_of_ble_eq_true rfl) (fun _ => ⟨rfl, rfl⟩) rfl (fun d11 e11 => ?_)
  have l11 : d11.length = (n + 12) := nm_ls e11 l10
  have t11 : d11[a]? = some (.inr (4, [.ref n, .ref (n + 3), .ref (n + 7), .ref (n + 11), .null, .null, .null, .null, .null, .null, .int 0, .int 0])) := by rw [e11]; exact nm_l2 t10
  have E11 : d11 = nm_X4_11 dh a n := by rw [e11, E10]; rfl
  exact cN_X4_p4 han hp l11 t11 E11
set_option maxRecDepth 100000 in
set_option maxHeartbeats 1000000 in
theorem cN_X4_p2 {dh d6 : List nm_E} {a n : Nat} (han : a < n) (hp : 0 < n) (l6 : d6.length = (n + 7)) (t6 : d6[a]? = some (.inr (4, [.ref n, .ref (n + 3), .null, .null, .null, .null, .null, .null, .null, .null, .int 0, .int 0]))) (E6 : d6 = nm_X4_6 dh a n) : nm_J (md_X4_init, 3, 18, 3013, n, nm_X4 dh a n) 26 [some (.ref a)] [] d6 7 1007 := by
  refine nm_aload_n (q := 27) d_X4_init_26 rfl rfl ?_
  refine nm_new (nc := 7) (ns := 1007) (q := 30) (n := (n + 7)) (N := 3) [.null, .null, .null] d_X4_init_27 rfl nw_X4_18 (fun r h => by cases h; rfl) fd_3 (fun _ => rfl) l6 rfl (Nat.succ_pos _) (Nat.le_of_ble_eq_true rfl) (Nat.le_of_ble_eq_true rfl) (fun d7 e7 => ?_)
  have l7 : d7.length = (n + 8) := nm_la e7 l6
  have t7 : d7[a]? = some (.inr (4, [.ref n, .ref (n + 3), .null, .null, .null, .null, .null, .null, .null, .null, .int 0, .int 0])) := by rw [e7]; exact nm_l1 t6
  have y7 : d7[(n + 7)]? = some (.inr (3, [.null, .null, .null])) := by rw [e7]; exact nm_l3 l6
  have E7 : d7 = nm_X4_7 dh a n := by rw [e7, E6]; rfl
  refine nm_dup (q := 31) d_X4_init_30 rfl rfl ?_
  refine nm_callI (nc := 8) (ns := 1010) (q := 34) (n := (n + 8)) (d' := 1) (mc' := 3) (ms' := 601) d_X4_init_31 rfl hl_X4_20 li_3 (Nat.le_of_ble_eq_true rfl) (Nat.le_of_ble_eq_true rfl) l7 rfl (Nat.succ_pos _) (Nat.le_of_ble_eq_true rfl) (Nat.le_of_ble_eq_true rfl) (cN_X3 l7 y7) (fun d8 e8 => ?_)
  have l8 : d8.length = (n + 11) := by rw [e8]; exact nl_X3 l7
  have t8 : d8[a]? = some (.inr (4, [.ref n, .ref (n + 3), .null, .null, .null, .null, .null, .null, .null, .null, .int 0, .int 0])) := by rw [e8]; exact np_X3 (nm_o2 7 han) (nm_o3 8 han) t7
  have E8 : d8 = nm_X4_8 dh a n := by rw [e8, E7]; rfl
  refine nm_putF (q := 37) (fs1 := [.ref n, .ref (n + 3), .ref (n + 7), .null, .null, .null, .null, .null, .null, .null, .int 0, .int 0]) d_X4_init_34 rfl ff_X4_25 t8 (Nat.le_of_ble_eq_true rfl) (fun _ => ⟨rfl, rfl⟩) rfl (fun d9 e9 => ?_)
  have l9 : d9.length = (n + 11) := nm_ls e9 l8
  have t9 : d9[a]? = some (.inr (4, [.ref n, .ref (n + 3), .ref (n + 7), .null, .null, .null, .null, .null, .null, .null, .int 0, .int 0])) := by rw [e9]; exact nm_l2 t8
  have E9 : d9 = nm_X4_9 dh a n := by rw [e9, E8]; rfl
  exact cN_X4_p3 han hp l9 t9 E9
set_option maxRecDepth 100000 in
set_option maxHeartbeats 1000000 in
theorem cN_X4_p1 {dh d3 : List nm_E} {a n : Nat} (han : a < n) (hp : 0 < n) (l3 : d3.length = (n + 3)) (t3 : d3[a]? = some (.inr (4, [.ref n, .null, .null, .null, .null, .null, .null, .null, .null, .null, .int 0, .int 0]))) (E3 : d3 = nm_X4_3 dh a n) : nm_J (md_X4_init, 3, 18, 3013, n, nm_X4 dh a n) 15 [some (.ref a)] [] d3 3 403 := by
  refine nm_aload_n (q := 16) d_X4_init_15 rfl rfl ?_
  refine nm_new (nc := 3) (ns := 403) (q := 19) (n := (n + 3)) (N := 3) [.null, .null, .null] d_X4_init_16 rfl nw_X4_18 (fun r h => by cases h; rfl) fd_3 (fun _ => rfl) l3 rfl (Nat.succ_pos _) (Nat.le_of_ble_eq_true rfl) (Nat.le_of_ble_eq_true rfl) (fun d4 e4 => ?_)
  have l4 : d4.length = (n + 4) := nm_la e4 l3
  have t4 : d4[a]? = some (.inr (4, [.ref n, .null, .null, .null, .null, .null, .null, .null, .null, .null, .int 0, .int 0])) := by rw [e4]; exact nm_l1 t3
  have y4 : d4[(n + 3)]? = some (.inr (3, [.null, .null, .null])) := by rw [e4]; exact nm_l3 l3
  have E4 : d4 = nm_X4_4 dh a n := by rw [e4, E3]; rfl
  refine nm_dup (q := 20) d_X4_init_19 rfl rfl ?_
  refine nm_callI (nc := 4) (ns := 406) (q := 23) (n := (n + 4)) (d' := 1) (mc' := 3) (ms' := 601) d_X4_init_20 rfl hl_X4_20 li_3 (Nat.le_of_ble_eq_true rfl) (Nat.le_of_ble_eq_true rfl) l4 rfl (Nat.succ_pos _) (Nat.le_of_ble_eq_true rfl) (Nat.le_of_ble_eq_true rfl) (cN_X3 l4 y4) (fun d5 e5 => ?_)
  have l5 : d5.length = (n + 7) := by rw [e5]; exact nl_X3 l4
  have t5 : d5[a]? = some (.inr (4, [.ref n, .null, .null, .null, .null, .null, .null, .null, .null, .null, .int 0, .int 0])) := by rw [e5]; exact np_X3 (nm_o2 3 han) (nm_o3 4 han) t4
  have E5 : d5 = nm_X4_5 dh a n := by rw [e5, E4]; rfl
  refine nm_putF (q := 26) (fs1 := [.ref n, .ref (n + 3), .null, .null, .null, .null, .null, .null, .null, .null, .int 0, .int 0]) d_X4_init_23 rfl ff_X4_21 t5 (Nat.le_of_ble_eq_true rfl) (fun _ => ⟨rfl, rfl⟩) rfl (fun d6 e6 => ?_)
  have l6 : d6.length = (n + 7) := nm_ls e6 l5
  have t6 : d6[a]? = some (.inr (4, [.ref n, .ref (n + 3), .null, .null, .null, .null, .null, .null, .null, .null, .int 0, .int 0])) := by rw [e6]; exact nm_l2 t5
  have E6 : d6 = nm_X4_6 dh a n := by rw [e6, E5]; rfl
  exact cN_X4_p2 han hp l6 t6 E6
set_option maxRecDepth 100000 in
set_option maxHeartbeats 1000000 in
theorem cN_X4 {dh : List nm_E} {a n : Nat} (hn : dh.length = n) (ha : dh[a]? = some (.inr (4, [.null, .null, .null, .null, .null, .null, .null, .null, .null, .null, .int 0, .int 0])))  : nm_Ct yX4_init md_X4_init 3 18 3013 [.ref a] dh (nm_X4 dh a n) := by
  have han : a < n := by rw [← hn]; exact (List.getElem?_eq_some_iff.mp ha).1
  have hp : 0 < n := by omega
  refine nm_enter (ls0 := [some (.ref a)]) 0 pn_X4 rfl rfl rfl (by decide) rfl hn ?_
  refine nm_aload_n (q := 1) d_X4_init_0 rfl rfl ?_
  refine nm_objinit (q := 4) d_X4_init_1 rfl ol_X4 oi_1 oi_2 (Nat.le_of_ble_eq_true rfl) (Nat.le_of_ble_eq_true rfl) ?_
  refine nm_aload_n (q := 5) d_X4_init_4 rfl rfl ?_
  refine nm_new (nc := 0) (ns := 0) (q := 8) (n := n) (N := 3) [.null, .null, .int 0] d_X4_init_5 rfl nw_X4_9 (fun r h => by cases h; rfl) fd_1 (fun _ => rfl) hn rfl hp (Nat.le_of_ble_eq_true rfl) (Nat.le_of_ble_eq_true rfl) (fun d1 e1 => ?_)
  have l1 : d1.length = (n + 1) := nm_la e1 hn
  have t1 : d1[a]? = some (.inr (4, [.null, .null, .null, .null, .null, .null, .null, .null, .null, .null, .int 0, .int 0])) := by rw [e1]; exact nm_l1 ha
  have y1 : d1[n]? = some (.inr (1, [.null, .null, .int 0])) := by rw [e1]; exact nm_l3 hn
  have E1 : d1 = nm_X4_1 dh a n := by rw [e1]; rfl
  refine nm_dup (q := 9) d_X4_init_8 rfl rfl ?_
  refine nm_callI (nc := 1) (ns := 3) (q := 12) (n := (n + 1)) (d' := 1) (mc' := 2) (ms' := 400) d_X4_init_9 rfl hl_X4_11 li_1 (Nat.le_of_ble_eq_true rfl) (Nat.le_of_ble_eq_true rfl) l1 rfl (Nat.succ_pos _) (Nat.le_of_ble_eq_true rfl) (Nat.le_of_ble_eq_true rfl) (cN_X1 l1 y1) (fun d2 e2 => ?_)
  have l2 : d2.length = (n + 3) := by rw [e2]; exact nl_X1 l1
  have t2 : d2[a]? = some (.inr (4, [.null, .null, .null, .null, .null, .null, .null, .null, .null, .null, .int 0, .int 0])) := by rw [e2]; exact np_X1 (nm_o2 0 han) (nm_o3 1 han) t1
  have E2 : d2 = nm_X4_2 dh a n := by rw [e2, E1]; rfl
  refine nm_putF (q := 15) (fs1 := [.ref n, .null, .null, .null, .null, .null, .null, .null, .null, .null, .int 0, .int 0]) d_X4_init_12 rfl ff_X4_12 t2 (Nat.le_of_ble_eq_true rfl) (fun _ => ⟨rfl, rfl⟩) rfl (fun d3 e3 => ?_)
  have l3 : d3.length = (n + 3) := nm_ls e3 l2
  have t3 : d3[a]? = some (.inr (4, [.ref n, .null, .null, .null, .null, .null, .null, .null, .null, .null, .int 0, .int 0])) := by rw [e3]; exact nm_l2 t2
  have E3 : d3 = nm_X4_3 dh a n := by rw [e3, E2]; rfl
  exact cN_X4_p1 han hp l3 t3 E3
