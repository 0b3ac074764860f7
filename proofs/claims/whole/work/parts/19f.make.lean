theorem d_X11_init_0 : decode cX11_init 0 = .ok (.aload_n 0, 1) := by decide +kernel
theorem d_X11_init_1 : decode cX11_init 1 = .ok (.invokespecial 1, 3) := by decide +kernel
theorem ol_X11 : Cond.methodLink RX11 1 objectInit ∈ sm_TB := sm_w (List.mem_of_getElem? (i := 92) (by decide +kernel)) rfl
theorem d_X11_init_4 : decode cX11_init 4 = .ok (.aload_n 0, 1) := by decide +kernel
theorem d_X11_init_5 : decode cX11_init 5 = .ok (.new 7, 3) := by decide +kernel
theorem nw_X11_7 : nm_LN RX11 7 2 := ⟨_, rfl, sm_w (List.mem_of_getElem? (i := 95) (by decide +kernel)) rfl, sm_w (List.mem_of_getElem? (i := 96) (by decide +kernel)) rfl, sm_w (List.mem_of_getElem? (i := 60) (by decide +kernel)) rfl⟩
theorem d_X11_init_8 : decode cX11_init 8 = .ok (.dup, 1) := by decide +kernel
theorem d_X11_init_9 : decode cX11_init 9 = .ok (.invokespecial 9, 3) := by decide +kernel
theorem li_2 : nm_LI yX2_init md_X2_init := ⟨sm_w (List.mem_of_getElem? (i := 98) (by decide +kernel)) rfl, sm_w (List.mem_of_getElem? (i := 60) (by decide +kernel)) rfl, sm_w (List.mem_of_getElem? (i := 99) (by decide +kernel)) rfl, by decide, rfl, rfl, by decide +kernel⟩
theorem hl_X11_9 : (RX11, 9, yX2_init) ∈ nm_nest ∨ Cond.methodLink RX11 9 yX2_init ∈ sm_TB := (Or.inl (by decide +kernel))
theorem d_X11_init_12 : decode cX11_init 12 = .ok (.putfield 10, 3) := by decide +kernel
theorem ff_X11_10 : nm_FF RX11 10 11 0 := ⟨_, rfl, by decide, sm_w (List.mem_of_getElem? (i := 450) (by decide +kernel)) rfl, rfl, rfl⟩
theorem d_X11_init_15 : decode cX11_init 15 = .ok (.aload_n 0, 1) := by decide +kernel
theorem d_X11_init_16 : decode cX11_init 16 = .ok (.new 16, 3) := by decide +kernel
theorem nw_X11_16 : nm_LN RX11 16 4 := ⟨_, rfl, sm_w (List.mem_of_getElem? (i := 156) (by decide +kernel)) rfl, sm_w (List.mem_of_getElem? (i := 157) (by decide +kernel)) rfl, sm_w (List.mem_of_getElem? (i := 62) (by decide +kernel)) rfl⟩
theorem d_X11_init_19 : decode cX11_init 19 = .ok (.dup, 1) := by decide +kernel
theorem d_X11_init_20 : decode cX11_init 20 = .ok (.invokespecial 18, 3) := by decide +kernel
theorem li_4 : nm_LI yX4_init md_X4_init := ⟨sm_w (List.mem_of_getElem? (i := 159) (by decide +kernel)) rfl, sm_w (List.mem_of_getElem? (i := 62) (by decide +kernel)) rfl, sm_w (List.mem_of_getElem? (i := 160) (by decide +kernel)) rfl, by decide, rfl, rfl, by decide +kernel⟩
theorem hl_X11_18 : (RX11, 18, yX4_init) ∈ nm_nest ∨ Cond.methodLink RX11 18 yX4_init ∈ sm_TB := (Or.inl (by decide +kernel))
theorem d_X11_init_23 : decode cX11_init 23 = .ok (.putfield 19, 3) := by decide +kernel
theorem ff_X11_19 : nm_FF RX11 19 11 1 := ⟨_, rfl, by decide, sm_w (List.mem_of_getElem? (i := 451) (by decide +kernel)) rfl, rfl, rfl⟩
theorem d_X11_init_26 : decode cX11_init 26 = .ok (.aload_n 0, 1) := by decide +kernel
theorem d_X11_init_27 : decode cX11_init 27 = .ok (.new 23, 3) := by decide +kernel
theorem nw_X11_23 : nm_LN RX11 23 7 := ⟨_, rfl, sm_w (List.mem_of_getElem? (i := 234) (by decide +kernel)) rfl, sm_w (List.mem_of_getElem? (i := 235) (by decide +kernel)) rfl, sm_w (List.mem_of_getElem? (i := 64) (by decide +kernel)) rfl⟩
theorem d_X11_init_30 : decode cX11_init 30 = .ok (.dup, 1) := by decide +kernel
theorem d_X11_init_31 : decode cX11_init 31 = .ok (.invokespecial 25, 3) := by decide +kernel
theorem hl_X11_25 : (RX11, 25, yX7_init) ∈ nm_nest ∨ Cond.methodLink RX11 25 yX7_init ∈ sm_TB := (Or.inl (by decide +kernel))
theorem d_X11_init_34 : decode cX11_init 34 = .ok (.putfield 26, 3) := by decide +kernel
theorem ff_X11_26 : nm_FF RX11 26 11 2 := ⟨_, rfl, by decide, sm_w (List.mem_of_getElem? (i := 452) (by decide +kernel)) rfl, rfl, rfl⟩
theorem d_X11_init_37 : decode cX11_init 37 = .ok (.aload_n 0, 1) := by decide +kernel
theorem d_X11_init_38 : decode cX11_init 38 = .ok (.new 30, 3) := by decide +kernel
theorem nw_X11_30 : nm_LN RX11 30 6 := ⟨_, rfl, sm_w (List.mem_of_getElem? (i := 255) (by decide +kernel)) rfl, sm_w (List.mem_of_getElem? (i := 256) (by decide +kernel)) rfl, sm_w (List.mem_of_getElem? (i := 65) (by decide +kernel)) rfl⟩
theorem d_X11_init_41 : decode cX11_init 41 = .ok (.dup, 1) := by decide +kernel
theorem d_X11_init_42 : decode cX11_init 42 = .ok (.invokespecial 32, 3) := by decide +kernel
theorem li_6 : nm_LI yX6_init md_X6_init := ⟨sm_w (List.mem_of_getElem? (i := 258) (by decide +kernel)) rfl, sm_w (List.mem_of_getElem? (i := 65) (by decide +kernel)) rfl, sm_w (List.mem_of_getElem? (i := 259) (by decide +kernel)) rfl, by decide, rfl, rfl, by decide +kernel⟩
theorem hl_X11_32 : (RX11, 32, yX6_init) ∈ nm_nest ∨ Cond.methodLink RX11 32 yX6_init ∈ sm_TB := (Or.inr (sm_w (List.mem_of_getElem? (i := 257) (by decide +kernel)) rfl))
theorem d_X11_init_45 : decode cX11_init 45 = .ok (.putfield 33, 3) := by decide +kernel
theorem ff_X11_33 : nm_FF RX11 33 11 3 := ⟨_, rfl, by decide, sm_w (List.mem_of_getElem? (i := 453) (by decide +kernel)) rfl, rfl, rfl⟩
theorem d_X11_init_48 : decode cX11_init 48 = .ok (.aload_n 0, 1) := by decide +kernel
theorem d_X11_init_49 : decode cX11_init 49 = .ok (.new 37, 3) := by decide +kernel
theorem nw_X11_37 : nm_LN RX11 37 10 := ⟨_, rfl, sm_w (List.mem_of_getElem? (i := 275) (by decide +kernel)) rfl, sm_w (List.mem_of_getElem? (i := 276) (by decide +kernel)) rfl, sm_w (List.mem_of_getElem? (i := 66) (by decide +kernel)) rfl⟩
theorem d_X11_init_52 : decode cX11_init 52 = .ok (.dup, 1) := by decide +kernel
theorem d_X11_init_53 : decode cX11_init 53 = .ok (.invokespecial 39, 3) := by decide +kernel
theorem li_10 : nm_LI yX10_init md_X10_init := ⟨sm_w (List.mem_of_getElem? (i := 278) (by decide +kernel)) rfl, sm_w (List.mem_of_getElem? (i := 66) (by decide +kernel)) rfl, sm_w (List.mem_of_getElem? (i := 279) (by decide +kernel)) rfl, by decide, rfl, rfl, by decide +kernel⟩
theorem hl_X11_39 : (RX11, 39, yX10_init) ∈ nm_nest ∨ Cond.methodLink RX11 39 yX10_init ∈ sm_TB := (Or.inl (by decide +kernel))
theorem d_X11_init_56 : decode cX11_init 56 = .ok (.putfield 40, 3) := by decide +kernel
theorem ff_X11_40 : nm_FF RX11 40 11 4 := ⟨_, rfl, by decide, sm_w (List.mem_of_getElem? (i := 454) (by decide +kernel)) rfl, rfl, rfl⟩
theorem d_X11_init_59 : decode cX11_init 59 = .ok (.aload_n 0, 1) := by decide +kernel
theorem d_X11_init_60 : decode cX11_init 60 = .ok (.new 44, 3) := by decide +kernel
theorem nw_X11_44 : nm_LN RX11 44 8 := ⟨_, rfl, sm_w (List.mem_of_getElem? (i := 311) (by decide +kernel)) rfl, sm_w (List.mem_of_getElem? (i := 312) (by decide +kernel)) rfl, sm_w (List.mem_of_getElem? (i := 67) (by decide +kernel)) rfl⟩
theorem d_X11_init_63 : decode cX11_init 63 = .ok (.dup, 1) := by decide +kernel
theorem d_X11_init_64 : decode cX11_init 64 = .ok (.invokespecial 46, 3) := by decide +kernel
theorem li_8 : nm_LI yX8_init md_X8_init := ⟨sm_w (List.mem_of_getElem? (i := 314) (by decide +kernel)) rfl, sm_w (List.mem_of_getElem? (i := 67) (by decide +kernel)) rfl, sm_w (List.mem_of_getElem? (i := 315) (by decide +kernel)) rfl, by decide, rfl, rfl, by decide +kernel⟩
theorem hl_X11_46 : (RX11, 46, yX8_init) ∈ nm_nest ∨ Cond.methodLink RX11 46 yX8_init ∈ sm_TB := (Or.inl (by decide +kernel))
theorem d_X11_init_67 : decode cX11_init 67 = .ok (.putfield 47, 3) := by decide +kernel
theorem ff_X11_47 : nm_FF RX11 47 11 5 := ⟨_, rfl, by decide, sm_w (List.mem_of_getElem? (i := 455) (by decide +kernel)) rfl, rfl, rfl⟩
theorem d_X11_init_70 : decode cX11_init 70 = .ok (.aload_n 0, 1) := by decide +kernel
theorem d_X11_init_71 : decode cX11_init 71 = .ok (.new 51, 3) := by decide +kernel
theorem nw_X11_51 : nm_LN RX11 51 5 := ⟨_, rfl, sm_w (List.mem_of_getElem? (i := 336) (by decide +kernel)) rfl, sm_w (List.mem_of_getElem? (i := 337) (by decide +kernel)) rfl, sm_w (List.mem_of_getElem? (i := 68) (by decide +kernel)) rfl⟩
theorem d_X11_init_74 : decode cX11_init 74 = .ok (.dup, 1) := by decide +kernel
theorem d_X11_init_75 : decode cX11_init 75 = .ok (.invokespecial 53, 3) := by decide +kernel
theorem li_5 : nm_LI yX5_init md_X5_init := ⟨sm_w (List.mem_of_getElem? (i := 339) (by decide +kernel)) rfl, sm_w (List.mem_of_getElem? (i := 68) (by decide +kernel)) rfl, sm_w (List.mem_of_getElem? (i := 340) (by decide +kernel)) rfl, by decide, rfl, rfl, by decide +kernel⟩
theorem hl_X11_53 : (RX11, 53, yX5_init) ∈ nm_nest ∨ Cond.methodLink RX11 53 yX5_init ∈ sm_TB := (Or.inl (by decide +kernel))
theorem d_X11_init_78 : decode cX11_init 78 = .ok (.putfield 54, 3) := by decide +kernel
theorem ff_X11_54 : nm_FF RX11 54 11 6 := ⟨_, rfl, by decide, sm_w (List.mem_of_getElem? (i := 456) (by decide +kernel)) rfl, rfl, rfl⟩
theorem d_X11_init_81 : decode cX11_init 81 = .ok (.aload_n 0, 1) := by decide +kernel
theorem d_X11_init_82 : decode cX11_init 82 = .ok (.new 58, 3) := by decide +kernel
theorem nw_X11_58 : nm_LN RX11 58 9 := ⟨_, rfl, sm_w (List.mem_of_getElem? (i := 346) (by decide +kernel)) rfl, sm_w (List.mem_of_getElem? (i := 347) (by decide +kernel)) rfl, sm_w (List.mem_of_getElem? (i := 69) (by decide +kernel)) rfl⟩
theorem d_X11_init_85 : decode cX11_init 85 = .ok (.dup, 1) := by decide +kernel
theorem d_X11_init_86 : decode cX11_init 86 = .ok (.invokespecial 60, 3) := by decide +kernel
theorem li_9 : nm_LI yX9_init md_X9_init := ⟨sm_w (List.mem_of_getElem? (i := 349) (by decide +kernel)) rfl, sm_w (List.mem_of_getElem? (i := 69) (by decide +kernel)) rfl, sm_w (List.mem_of_getElem? (i := 350) (by decide +kernel)) rfl, by decide, rfl, rfl, by decide +kernel⟩
theorem hl_X11_60 : (RX11, 60, yX9_init) ∈ nm_nest ∨ Cond.methodLink RX11 60 yX9_init ∈ sm_TB := (Or.inl (by decide +kernel))
theorem d_X11_init_89 : decode cX11_init 89 = .ok (.putfield 61, 3) := by decide +kernel
theorem ff_X11_61 : nm_FF RX11 61 11 7 := ⟨_, rfl, by decide, sm_w (List.mem_of_getElem? (i := 457) (by decide +kernel)) rfl, rfl, rfl⟩
theorem d_X11_init_92 : decode cX11_init 92 = .ok (.aload_n 0, 1) := by decide +kernel
theorem d_X11_init_93 : decode cX11_init 93 = .ok (.new 65, 3) := by decide +kernel
theorem nw_X11_65 : nm_LN RX11 65 0 := ⟨_, rfl, sm_w (List.mem_of_getElem? (i := 359) (by decide +kernel)) rfl, sm_w (List.mem_of_getElem? (i := 360) (by decide +kernel)) rfl, sm_w (List.mem_of_getElem? (i := 70) (by decide +kernel)) rfl⟩
theorem d_X11_init_96 : decode cX11_init 96 = .ok (.dup, 1) := by decide +kernel
theorem d_X11_init_97 : decode cX11_init 97 = .ok (.invokespecial 67, 3) := by decide +kernel
theorem li_0 : nm_LI yX0_init md_X0_init := ⟨sm_w (List.mem_of_getElem? (i := 362) (by decide +kernel)) rfl, sm_w (List.mem_of_getElem? (i := 70) (by decide +kernel)) rfl, sm_w (List.mem_of_getElem? (i := 363) (by decide +kernel)) rfl, by decide, rfl, rfl, by decide +kernel⟩
theorem hl_X11_67 : (RX11, 67, yX0_init) ∈ nm_nest ∨ Cond.methodLink RX11 67 yX0_init ∈ sm_TB := (Or.inl (by decide +kernel))
theorem d_X11_init_100 : decode cX11_init 100 = .ok (.putfield 68, 3) := by decide +kernel
theorem ff_X11_68 : nm_FF RX11 68 11 8 := ⟨_, rfl, by decide, sm_w (List.mem_of_getElem? (i := 458) (by decide +kernel)) rfl, rfl, rfl⟩
theorem d_X11_init_103 : decode cX11_init 103 = .ok (.aload_n 0, 1) := by decide +kernel
theorem d_X11_init_104 : decode cX11_init 104 = .ok (.sipush 240, 3) := by decide +kernel
theorem d_X11_init_107 : decode cX11_init 107 = .ok (.newarray .char, 2) := by decide +kernel
theorem d_X11_init_109 : decode cX11_init 109 = .ok (.putfield 72, 3) := by decide +kernel
theorem ff_X11_72 : nm_FF RX11 72 11 9 := ⟨_, rfl, by decide, sm_w (List.mem_of_getElem? (i := 459) (by decide +kernel)) rfl, rfl, rfl⟩
theorem d_X11_init_112 : decode cX11_init 112 = .ok (.aload_n 0, 1) := by decide +kernel
theorem d_X11_init_113 : decode cX11_init 113 = .ok (.sipush 240, 3) := by decide +kernel
theorem d_X11_init_116 : decode cX11_init 116 = .ok (.newarray .char, 2) := by decide +kernel
theorem d_X11_init_118 : decode cX11_init 118 = .ok (.putfield 76, 3) := by decide +kernel
theorem ff_X11_76 : nm_FF RX11 76 11 11 := ⟨_, rfl, by decide, sm_w (List.mem_of_getElem? (i := 461) (by decide +kernel)) rfl, rfl, rfl⟩
theorem d_X11_init_121 : decode cX11_init 121 = .ok (.aload_n 0, 1) := by decide +kernel
theorem d_X11_init_122 : decode cX11_init 122 = .ok (.new 23, 3) := by decide +kernel
theorem d_X11_init_125 : decode cX11_init 125 = .ok (.dup, 1) := by decide +kernel
theorem d_X11_init_126 : decode cX11_init 126 = .ok (.invokespecial 25, 3) := by decide +kernel
theorem d_X11_init_129 : decode cX11_init 129 = .ok (.putfield 79, 3) := by decide +kernel
theorem ff_X11_79 : nm_FF RX11 79 11 13 := ⟨_, rfl, by decide, sm_w (List.mem_of_getElem? (i := 463) (by decide +kernel)) rfl, rfl, rfl⟩
theorem d_X11_init_132 : decode cX11_init 132 = .ok (.aload_n 0, 1) := by decide +kernel
theorem d_X11_init_133 : decode cX11_init 133 = .ok (.iconst 0, 1) := by decide +kernel
theorem d_X11_init_134 : decode cX11_init 134 = .ok (.iconst 2, 1) := by decide +kernel
theorem d_X11_init_135 : decode cX11_init 135 = .ok (.iconst 2, 1) := by decide +kernel
theorem d_X11_init_136 : decode cX11_init 136 = .ok (.invokevirtual 82, 3) := by decide +kernel
theorem lkc_X11_82 : sm_LV RX11 82 yX11_beginFamily md_X11_beginFamily 3 := ⟨sm_w (List.mem_of_getElem? (i := 372) (by decide +kernel)) rfl, sm_w (List.mem_of_getElem? (i := 374) (by decide +kernel)) rfl, sm_w (List.mem_of_getElem? (i := 0) (by decide +kernel)) rfl, sm_w (List.mem_of_getElem? (i := 59) (by decide +kernel)) rfl, sm_w (List.mem_of_getElem? (i := 375) (by decide +kernel)) rfl, by decide, by decide +kernel⟩
theorem d_X11_init_139 : decode cX11_init 139 = .ok (.return_, 1) := by decide +kernel
def nm_X11_1 (dh : List nm_E) (a n : Nat) : List nm_E := dh ++ ([.inr (2, [.null, .int 0, .int 0, .int 0])] : List nm_E)
theorem nl_X11_1 {dh : List nm_E} {a n : Nat} (h : dh.length = n) : (nm_X11_1 dh a n).length = n + 1 := by unfold nm_X11_1; rw [List.length_append, h]; rfl
theorem np_X11_1 {dh : List nm_E} {a n b : Nat} {e : nm_E} (hne : b ≠ a) (hb : b < n) (h : dh[b]? = some e) : (nm_X11_1 dh a n)[b]? = some e := nm_l5 h
def nm_X11_2 (dh : List nm_E) (a n : Nat) : List nm_E := nm_X2 (nm_X11_1 dh a n) n (n + 1)
theorem nl_X11_2 {dh : List nm_E} {a n : Nat} (h : dh.length = n) : (nm_X11_2 dh a n).length = n + 4 := nl_X2 (nl_X11_1 h)
theorem np_X11_2 {dh : List nm_E} {a n b : Nat} {e : nm_E} (hne : b ≠ a) (hb : b < n) (h : dh[b]? = some e) : (nm_X11_2 dh a n)[b]? = some e := np_X2 (by omega) (by omega) (np_X11_1 hne hb h)
def nm_X11_3 (dh : List nm_E) (a n : Nat) : List nm_E := (nm_X11_2 dh a n).set a (.inr (11, [.ref n, .null, .null, .null, .null, .null, .null, .null, .null, .null, .int 0, .null, .int 0, .null, .int 0, .int 0, .int 0, .int 0]) : nm_E)
theorem nl_X11_3 {dh : List nm_E} {a n : Nat} (h : dh.length = n) : (nm_X11_3 dh a n).length = n + 4 := by unfold nm_X11_3; rw [List.length_set]; exact nl_X11_2 h
theorem np_X11_3 {dh : List nm_E} {a n b : Nat} {e : nm_E} (hne : b ≠ a) (hb : b < n) (h : dh[b]? = some e) : (nm_X11_3 dh a n)[b]? = some e := nm_l4 (by omega) (np_X11_2 hne hb h)
def nm_X11_4 (dh : List nm_E) (a n : Nat) : List nm_E := (nm_X11_3 dh a n) ++ ([.inr (4, [.null, .null, .null, .null, .null, .null, .null, .null, .null, .null, .int 0, .int 0])] : List nm_E)
theorem nl_X11_4 {dh : List nm_E} {a n : Nat} (h : dh.length = n) : (nm_X11_4 dh a n).length = n + 5 := by unfold nm_X11_4; rw [List.length_append, nl_X11_3 h]; rfl
theorem np_X11_4 {dh : List nm_E} {a n b : Nat} {e : nm_E} (hne : b ≠ a) (hb : b < n) (h : dh[b]? = some e) : (nm_X11_4 dh a n)[b]? = some e := nm_l5 (np_X11_3 hne hb h)
def nm_X11_5 (dh : List nm_E) (a n : Nat) : List nm_E := nm_X4 (nm_X11_4 dh a n) (n + 4) (n + 5)
theorem nl_X11_5 {dh : List nm_E} {a n : Nat} (h : dh.length = n) : (nm_X11_5 dh a n).length = n + 23 := nl_X4 (nl_X11_4 h)
theorem np_X11_5 {dh : List nm_E} {a n b : Nat} {e : nm_E} (hne : b ≠ a) (hb : b < n) (h : dh[b]? = some e) : (nm_X11_5 dh a n)[b]? = some e := np_X4 (by omega) (by omega) (np_X11_4 hne hb h)
def nm_X11_6 (dh : List nm_E) (a n : Nat) : List nm_E := (nm_X11_5 dh a n).set a (.inr (11, [.ref n, .ref (n + 4), .null, .null, .null, .null, .null, .null, .null, .null, .int 0, .null, .int 0, .null, .int 0, .int 0, .int 0, .int 0]) : nm_E)
theorem nl_X11_6 {dh : List nm_E} {a n : Nat} (h : dh.length = n) : (nm_X11_6 dh a n).length = n + 23 := by unfold nm_X11_6; rw [List.length_set]; exact nl_X11_5 h
theorem np_X11_6 {dh : List nm_E} {a n b : Nat} {e : nm_E} (hne : b ≠ a) (hb : b < n) (h : dh[b]? = some e) : (nm_X11_6 dh a n)[b]? = some e := nm_l4 (by omega) (np_X11_5 hne hb h)
def nm_X11_7 (dh : List nm_E) (a n : Nat) : List nm_E := (nm_X11_6 dh a n) ++ ([.inr (7, [.null, .int 0])] : List nm_E)
theorem nl_X11_7 {dh : List nm_E} {a n : Nat} (h : dh.length = n) : (nm_X11_7 dh a n).length = n + 24 := by unfold nm_X11_7; rw [List.length_append, nl_X11_6 h]; rfl
theorem np_X11_7 {dh : List nm_E} {a n b : Nat} {e : nm_E} (hne : b ≠ a) (hb : b < n) (h : dh[b]? = some e) : (nm_X11_7 dh a n)[b]? = some e := nm_l5 (np_X11_6 hne hb h)
def nm_X11_8 (dh : List nm_E) (a n : Nat) : List nm_E := nm_X7 (nm_X11_7 dh a n) (n + 23) (n + 24)
theorem nl_X11_8 {dh : List nm_E} {a n : Nat} (h : dh.length = n) : (nm_X11_8 dh a n).length = n + 25 := nl_X7 (nl_X11_7 h)
theorem np_X11_8 {dh : List nm_E} {a n b : Nat} {e : nm_E} (hne : b ≠ a) (hb : b < n) (h : dh[b]? = some e) : (nm_X11_8 dh a n)[b]? = some e := np_X7 (by omega) (by omega) (np_X11_7 hne hb h)
def nm_X11_9 (dh : List nm_E) (a n : Nat) : List nm_E := (nm_X11_8 dh a n).set a (.inr (11, [.ref n, .ref (n + 4), .ref (n + 23), .null, .null, .null, .null, .null, .null, .null, .int 0, .null, .int 0, .null, .int 0, .int 0, .int 0, .int 0]) : nm_E)
theorem nl_X11_9 {dh : List nm_E} {a n : Nat} (h : dh.length = n) : (nm_X11_9 dh a n).length = n + 25 := by unfold nm_X11_9; rw [List.length_set]; exact nl_X11_8 h
theorem np_X11_9 {dh : List nm_E} {a n b : Nat} {e : nm_E} (hne : b ≠ a) (hb : b < n) (h : dh[b]? = some e) : (nm_X11_9 dh a n)[b]? = some e := nm_l4 (by omega) (np_X11_8 hne hb h)
def nm_X11_10 (dh : List nm_E) (a n : Nat) : List nm_E := (nm_X11_9 dh a n) ++ ([.inr (6, [.null, .int 0, .int 0])] : List nm_E)
theorem nl_X11_10 {dh : List nm_E} {a n : Nat} (h : dh.length = n) : (nm_X11_10 dh a n).length = n + 26 := by unfold nm_X11_10; rw [List.length_append, nl_X11_9 h]; rfl
theorem np_X11_10 {dh : List nm_E} {a n b : Nat} {e : nm_E} (hne : b ≠ a) (hb : b < n) (h : dh[b]? = some e) : (nm_X11_10 dh a n)[b]? = some e := nm_l5 (np_X11_9 hne hb h)
def nm_X11_11 (dh : List nm_E) (a n : Nat) : List nm_E := nm_X6 (nm_X11_10 dh a n) (n + 25) (n + 26)
theorem nl_X11_11 {dh : List nm_E} {a n : Nat} (h : dh.length = n) : (nm_X11_11 dh a n).length = n + 51 := nl_X6 (nl_X11_10 h)
theorem np_X11_11 {dh : List nm_E} {a n b : Nat} {e : nm_E} (hne : b ≠ a) (hb : b < n) (h : dh[b]? = some e) : (nm_X11_11 dh a n)[b]? = some e := np_X6 (by omega) (by omega) (np_X11_10 hne hb h)
def nm_X11_12 (dh : List nm_E) (a n : Nat) : List nm_E := (nm_X11_11 dh a n).set a (.inr (11, [.ref n, .ref (n + 4), .ref (n + 23), .ref (n + 25), .null, .null, .null, .null, .null, .null, .int 0, .null, .int 0, .null, .int 0, .int 0, .int 0, .int 0]) : nm_E)
theorem nl_X11_12 {dh : List nm_E} {a n : Nat} (h : dh.length = n) : (nm_X11_12 dh a n).length = n + 51 := by unfold nm_X11_12; rw [List.length_set]; exact nl_X11_11 h
theorem np_X11_12 {dh : List nm_E} {a n b : Nat} {e : nm_E} (hne : b ≠ a) (hb : b < n) (h : dh[b]? = some e) : (nm_X11_12 dh a n)[b]? = some e := nm_l4 (by omega) (np_X11_11 hne hb h)
def nm_X11_13 (dh : List nm_E) (a n : Nat) : List nm_E := (nm_X11_12 dh a n) ++ ([.inr (10, [.null, .null, .null, .null, .int 0, .int 0, .int 0, .int 0])] : List nm_E)
theorem nl_X11_13 {dh : List nm_E} {a n : Nat} (h : dh.length = n) : (nm_X11_13 dh a n).length = n + 52 := by unfold nm_X11_13; rw [List.length_append, nl_X11_12 h]; rfl
theorem np_X11_13 {dh : List nm_E} {a n b : Nat} {e : nm_E} (hne : b ≠ a) (hb : b < n) (h : dh[b]? = some e) : (nm_X11_13 dh a n)[b]? = some e := nm_l5 (np_X11_12 hne hb h)
def nm_X11_14 (dh : List nm_E) (a n : Nat) : List nm_E := nm_X10 (nm_X11_13 dh a n) (n + 51) (n + 52)
theorem nl_X11_14 {dh : List nm_E} {a n : Nat} (h : dh.length = n) : (nm_X11_14 dh a n).length = n + 56 := nl_X10 (nl_X11_13 h)
theorem np_X11_14 {dh : List nm_E} {a n b : Nat} {e : nm_E} (hne : b ≠ a) (hb : b < n) (h : dh[b]? = some e) : (nm_X11_14 dh a n)[b]? = some e := np_X10 (by omega) (by omega) (np_X11_13 hne hb h)
def nm_X11_15 (dh : List nm_E) (a n : Nat) : List nm_E := (nm_X11_14 dh a n).set a (.inr (11, [.ref n, .ref (n + 4), .ref (n + 23), .ref (n + 25), .ref (n + 51), .null, .null, .null, .null, .null, .int 0, .null, .int 0, .null, .int 0, .int 0, .int 0, .int 0]) : nm_E)
theorem nl_X11_15 {dh : List nm_E} {a n : Nat} (h : dh.length = n) : (nm_X11_15 dh a n).length = n + 56 := by unfold nm_X11_15; rw [List.length_set]; exact nl_X11_14 h
theorem np_X11_15 {dh : List nm_E} {a n b : Nat} {e : nm_E} (hne : b ≠ a) (hb : b < n) (h : dh[b]? = some e) : (nm_X11_15 dh a n)[b]? = some e := nm_l4 (by omega) (np_X11_14 hne hb h)
def nm_X11_16 (dh : List nm_E) (a n : Nat) : List nm_E := (nm_X11_15 dh a n) ++ ([.inr (8, [.null, .null, .null, .int 0, .int 0])] : List nm_E)
theorem nl_X11_16 {dh : List nm_E} {a n : Nat} (h : dh.length = n) : (nm_X11_16 dh a n).length = n + 57 := by unfold nm_X11_16; rw [List.length_append, nl_X11_15 h]; rfl
theorem np_X11_16 {dh : List nm_E} {a n b : Nat} {e : nm_E} (hne : b ≠ a) (hb : b < n) (h : dh[b]? = some e) : (nm_X11_16 dh a n)[b]? = some e := nm_l5 (np_X11_15 hne hb h)
def nm_X11_17 (dh : List nm_E) (a n : Nat) : List nm_E := nm_X8 (nm_X11_16 dh a n) (n + 56) (n + 57)
theorem nl_X11_17 {dh : List nm_E} {a n : Nat} (h : dh.length = n) : (nm_X11_17 dh a n).length = n + 61 := nl_X8 (nl_X11_16 h)
theorem np_X11_17 {dh : List nm_E} {a n b : Nat} {e : nm_E} (hne : b ≠ a) (hb : b < n) (h : dh[b]? = some e) : (nm_X11_17 dh a n)[b]? = some e := np_X8 (by omega) (by omega) (np_X11_16 hne hb h)
def nm_X11_18 (dh : List nm_E) (a n : Nat) : List nm_E := (nm_X11_17 dh a n).set a (.inr (11, [.ref n, .ref (n + 4), .ref (n + 23), .ref (n + 25), .ref (n + 51), .ref (n + 56), .null, .null, .null, .null, .int 0, .null, .int 0, .null, .int 0, .int 0, .int 0, .int 0]) : nm_E)
theorem nl_X11_18 {dh : List nm_E} {a n : Nat} (h : dh.length = n) : (nm_X11_18 dh a n).length = n + 61 := by unfold nm_X11_18; rw [List.length_set]; exact nl_X11_17 h
theorem np_X11_18 {dh : List nm_E} {a n b : Nat} {e : nm_E} (hne : b ≠ a) (hb : b < n) (h : dh[b]? = some e) : (nm_X11_18 dh a n)[b]? = some e := nm_l4 (by omega) (np_X11_17 hne hb h)
def nm_X11_19 (dh : List nm_E) (a n : Nat) : List nm_E := (nm_X11_18 dh a n) ++ ([.inr (5, [.null])] : List nm_E)
theorem nl_X11_19 {dh : List nm_E} {a n : Nat} (h : dh.length = n) : (nm_X11_19 dh a n).length = n + 62 := by unfold nm_X11_19; rw [List.length_append, nl_X11_18 h]; rfl
theorem np_X11_19 {dh : List nm_E} {a n b : Nat} {e : nm_E} (hne : b ≠ a) (hb : b < n) (h : dh[b]? = some e) : (nm_X11_19 dh a n)[b]? = some e := nm_l5 (np_X11_18 hne hb h)
def nm_X11_20 (dh : List nm_E) (a n : Nat) : List nm_E := nm_X5 (nm_X11_19 dh a n) (n + 61) (n + 62)
theorem nl_X11_20 {dh : List nm_E} {a n : Nat} (h : dh.length = n) : (nm_X11_20 dh a n).length = n + 63 := nl_X5 (nl_X11_19 h)
theorem np_X11_20 {dh : List nm_E} {a n b : Nat} {e : nm_E} (hne : b ≠ a) (hb : b < n) (h : dh[b]? = some e) : (nm_X11_20 dh a n)[b]? = some e := np_X5 (by omega) (by omega) (np_X11_19 hne hb h)
def nm_X11_21 (dh : List nm_E) (a n : Nat) : List nm_E := (nm_X11_20 dh a n).set a (.inr (11, [.ref n, .ref (n + 4), .ref (n + 23), .ref (n + 25), .ref (n + 51), .ref (n + 56), .ref (n + 61), .null, .null, .null, .int 0, .null, .int 0, .null, .int 0, .int 0, .int 0, .int 0]) : nm_E)
theorem nl_X11_21 {dh : List nm_E} {a n : Nat} (h : dh.length = n) : (nm_X11_21 dh a n).length = n + 63 := by unfold nm_X11_21; rw [List.length_set]; exact nl_X11_20 h
theorem np_X11_21 {dh : List nm_E} {a n b : Nat} {e : nm_E} (hne : b ≠ a) (hb : b < n) (h : dh[b]? = some e) : (nm_X11_21 dh a n)[b]? = some e := nm_l4 (by omega) (np_X11_20 hne hb h)
def nm_X11_22 (dh : List nm_E) (a n : Nat) : List nm_E := (nm_X11_21 dh a n) ++ ([.inr (9, [.null])] : List nm_E)
theorem nl_X11_22 {dh : List nm_E} {a n : Nat} (h : dh.length = n) : (nm_X11_22 dh a n).length = n + 64 := by unfold nm_X11_22; rw [List.length_append, nl_X11_21 h]; rfl
theorem np_X11_22 {dh : List nm_E} {a n b : Nat} {e : nm_E} (hne : b ≠ a) (hb : b < n) (h : dh[b]? = some e) : (nm_X11_22 dh a n)[b]? = some e := nm_l5 (np_X11_21 hne hb h)
def nm_X11_23 (dh : List nm_E) (a n : Nat) : List nm_E := nm_X9 (nm_X11_22 dh a n) (n + 63) (n + 64)
theorem nl_X11_23 {dh : List nm_E} {a n : Nat} (h : dh.length = n) : (nm_X11_23 dh a n).length = n + 66 := nl_X9 (nl_X11_22 h)
theorem np_X11_23 {dh : List nm_E} {a n b : Nat} {e : nm_E} (hne : b ≠ a) (hb : b < n) (h : dh[b]? = some e) : (nm_X11_23 dh a n)[b]? = some e := np_X9 (by omega) (by omega) (np_X11_22 hne hb h)
def nm_X11_24 (dh : List nm_E) (a n : Nat) : List nm_E := (nm_X11_23 dh a n).set a (.inr (11, [.ref n, .ref (n + 4), .ref (n + 23), .ref (n + 25), .ref (n + 51), .ref (n + 56), .ref (n + 61), .ref (n + 63), .null, .null, .int 0, .null, .int 0, .null, .int 0, .int 0, .int 0, .int 0]) : nm_E)
theorem nl_X11_24 {dh : List nm_E} {a n : Nat} (h : dh.length = n) : (nm_X11_24 dh a n).length = n + 66 := by unfold nm_X11_24; rw [List.length_set]; exact nl_X11_23 h
theorem np_X11_24 {dh : List nm_E} {a n b : Nat} {e : nm_E} (hne : b ≠ a) (hb : b < n) (h : dh[b]? = some e) : (nm_X11_24 dh a n)[b]? = some e := nm_l4 (by omega) (np_X11_23 hne hb h)
def nm_X11_25 (dh : List nm_E) (a n : Nat) : List nm_E := (nm_X11_24 dh a n) ++ ([.inr (0, [.null])] : List nm_E)
theorem nl_X11_25 {dh : List nm_E} {a n : Nat} (h : dh.length = n) : (nm_X11_25 dh a n).length = n + 67 := by unfold nm_X11_25; rw [List.length_append, nl_X11_24 h]; rfl
theorem np_X11_25 {dh : List nm_E} {a n b : Nat} {e : nm_E} (hne : b ≠ a) (hb : b < n) (h : dh[b]? = some e) : (nm_X11_25 dh a n)[b]? = some e := nm_l5 (np_X11_24 hne hb h)
def nm_X11_26 (dh : List nm_E) (a n : Nat) : List nm_E := nm_X0 (nm_X11_25 dh a n) (n + 66) (n + 67)
theorem nl_X11_26 {dh : List nm_E} {a n : Nat} (h : dh.length = n) : (nm_X11_26 dh a n).length = n + 75 := nl_X0 (nl_X11_25 h)
theorem np_X11_26 {dh : List nm_E} {a n b : Nat} {e : nm_E} (hne : b ≠ a) (hb : b < n) (h : dh[b]? = some e) : (nm_X11_26 dh a n)[b]? = some e := np_X0 (by omega) (by omega) (np_X11_25 hne hb h)
def nm_X11_27 (dh : List nm_E) (a n : Nat) : List nm_E := (nm_X11_26 dh a n).set a (.inr (11, [.ref n, .ref (n + 4), .ref (n + 23), .ref (n + 25), .ref (n + 51), .ref (n + 56), .ref (n + 61), .ref (n + 63), .ref (n + 66), .null, .int 0, .null, .int 0, .null, .int 0, .int 0, .int 0, .int 0]) : nm_E)
theorem nl_X11_27 {dh : List nm_E} {a n : Nat} (h : dh.length = n) : (nm_X11_27 dh a n).length = n + 75 := by unfold nm_X11_27; rw [List.length_set]; exact nl_X11_26 h
theorem np_X11_27 {dh : List nm_E} {a n b : Nat} {e : nm_E} (hne : b ≠ a) (hb : b < n) (h : dh[b]? = some e) : (nm_X11_27 dh a n)[b]? = some e := nm_l4 (by omega) (np_X11_26 hne hb h)
def nm_X11_28 (dh : List nm_E) (a n : Nat) : List nm_E := (nm_X11_27 dh a n) ++ ([.inl (1, 240, fun _ => 0, fun _ => 0, [])] : List nm_E)
theorem nl_X11_28 {dh : List nm_E} {a n : Nat} (h : dh.length = n) : (nm_X11_28 dh a n).length = n + 76 := by unfold nm_X11_28; rw [List.length_append, nl_X11_27 h]; rfl
theorem np_X11_28 {dh : List nm_E} {a n b : Nat} {e : nm_E} (hne : b ≠ a) (hb : b < n) (h : dh[b]? = some e) : (nm_X11_28 dh a n)[b]? = some e := nm_l5 (np_X11_27 hne hb h)
def nm_X11_29 (dh : List nm_E) (a n : Nat) : List nm_E := (nm_X11_28 dh a n).set a (.inr (11, [.ref n, .ref (n + 4), .ref (n + 23), .ref (n + 25), .ref (n + 51), .ref (n + 56), .ref (n + 61), .ref (n + 63), .ref (n + 66), .ref (n + 75), .int 0, .null, .int 0, .null, .int 0, .int 0, .int 0, .int 0]) : nm_E)
theorem nl_X11_29 {dh : List nm_E} {a n : Nat} (h : dh.length = n) : (nm_X11_29 dh a n).length = n + 76 := by unfold nm_X11_29; rw [List.length_set]; exact nl_X11_28 h
theorem np_X11_29 {dh : List nm_E} {a n b : Nat} {e : nm_E} (hne : b ≠ a) (hb : b < n) (h : dh[b]? = some e) : (nm_X11_29 dh a n)[b]? = some e := nm_l4 (by omega) (np_X11_28 hne hb h)
def nm_X11_30 (dh : List nm_E) (a n : Nat) : List nm_E := (nm_X11_29 dh a n) ++ ([.inl (1, 240, fun _ => 0, fun _ => 0, [])] : List nm_E)
theorem nl_X11_30 {dh : List nm_E} {a n : Nat} (h : dh.length = n) : (nm_X11_30 dh a n).length = n + 77 := by unfold nm_X11_30; rw [List.length_append, nl_X11_29 h]; rfl
theorem np_X11_30 {dh : List nm_E} {a n b : Nat} {e : nm_E} (hne : b ≠ a) (hb : b < n) (h : dh[b]? = some e) : (nm_X11_30 dh a n)[b]? = some e := nm_l5 (np_X11_29 hne hb h)
def nm_X11_31 (dh : List nm_E) (a n : Nat) : List nm_E := (nm_X11_30 dh a n).set a (.inr (11, [.ref n, .ref (n + 4), .ref (n + 23), .ref (n + 25), .ref (n + 51), .ref (n + 56), .ref (n + 61), .ref (n + 63), .ref (n + 66), .ref (n + 75), .int 0, .ref (n + 76), .int 0, .null, .int 0, .int 0, .int 0, .int 0]) : nm_E)
theorem nl_X11_31 {dh : List nm_E} {a n : Nat} (h : dh.length = n) : (nm_X11_31 dh a n).length = n + 77 := by unfold nm_X11_31; rw [List.length_set]; exact nl_X11_30 h
theorem np_X11_31 {dh : List nm_E} {a n b : Nat} {e : nm_E} (hne : b ≠ a) (hb : b < n) (h : dh[b]? = some e) : (nm_X11_31 dh a n)[b]? = some e := nm_l4 (by omega) (np_X11_30 hne hb h)
def nm_X11_32 (dh : List nm_E) (a n : Nat) : List nm_E := (nm_X11_31 dh a n) ++ ([.inr (7, [.null, .int 0])] : List nm_E)
theorem nl_X11_32 {dh : List nm_E} {a n : Nat} (h : dh.length = n) : (nm_X11_32 dh a n).length = n + 78 := by unfold nm_X11_32; rw [List.length_append, nl_X11_31 h]; rfl
theorem np_X11_32 {dh : List nm_E} {a n b : Nat} {e : nm_E} (hne : b ≠ a) (hb : b < n) (h : dh[b]? = some e) : (nm_X11_32 dh a n)[b]? = some e := nm_l5 (np_X11_31 hne hb h)
def nm_X11_33 (dh : List nm_E) (a n : Nat) : List nm_E := nm_X7 (nm_X11_32 dh a n) (n + 77) (n + 78)
theorem nl_X11_33 {dh : List nm_E} {a n : Nat} (h : dh.length = n) : (nm_X11_33 dh a n).length = n + 79 := nl_X7 (nl_X11_32 h)
theorem np_X11_33 {dh : List nm_E} {a n b : Nat} {e : nm_E} (hne : b ≠ a) (hb : b < n) (h : dh[b]? = some e) : (nm_X11_33 dh a n)[b]? = some e := np_X7 (by omega) (by omega) (np_X11_32 hne hb h)
def nm_X11_34 (dh : List nm_E) (a n : Nat) : List nm_E := (nm_X11_33 dh a n).set a (.inr (11, [.ref n, .ref (n + 4), .ref (n + 23), .ref (n + 25), .ref (n + 51), .ref (n + 56), .ref (n + 61), .ref (n + 63), .ref (n + 66), .ref (n + 75), .int 0, .ref (n + 76), .int 0, .ref (n + 77), .int 0, .int 0, .int 0, .int 0]) : nm_E)
theorem nl_X11_34 {dh : List nm_E} {a n : Nat} (h : dh.length = n) : (nm_X11_34 dh a n).length = n + 79 := by unfold nm_X11_34; rw [List.length_set]; exact nl_X11_33 h
theorem np_X11_34 {dh : List nm_E} {a n b : Nat} {e : nm_E} (hne : b ≠ a) (hb : b < n) (h : dh[b]? = some e) : (nm_X11_34 dh a n)[b]? = some e := nm_l4 (by omega) (np_X11_33 hne hb h)
abbrev nm_X11 (dh : List nm_E) (a n : Nat) : List nm_E := nm_X11_34 dh a n
theorem nl_X11 {dh : List nm_E} {a n : Nat} (h : dh.length = n) : (nm_X11 dh a n).length = n + 79 := nl_X11_34 h
theorem np_X11 {dh : List nm_E} {a n b : Nat} {e : nm_E} (hne : b ≠ a) (hb : b < n) (h : dh[b]? = some e) : (nm_X11 dh a n)[b]? = some e := np_X11_34 hne hb h
set_option maxRecDepth 100000 in
set_option maxHeartbeats 1000000 in
theorem cN_X11_p12 {dh d34 : List nm_E} {a n : Nat} (han : a < n) (hp : 0 < n) (l34 : d34.length = (n + 79)) (t34 : d34[a]? = some (.inr (11, [.ref n, .ref (n + 4), .ref (n + 23), .ref (n + 25), .ref (n + 51), .ref (n + 56), .ref (n + 61), .ref (n + 63), .ref (n + 66), .ref (n + 75), .int 0, .ref (n + 76), .int 0, .ref (n + 77), .int 0, .int 0, .int 0, .int 0]))) (E34 : d34 = nm_X11_34 dh a n) {sk : List sm_Sh} {M M1 : sm_M} {fs9 : List (Option Nat)} (hdy : nm_X11_34 dh a n = nm_dy sk M) (hA : sk[a]? = some (.inr (11, fs9))) (hC : sm_Ct yX11_beginFamily md_X11_beginFamily 5 sk (.ref a :: [.int (0 : Int32), .int (2 : Int32), .int (2 : Int32)]) M (.inl none) M1) : nm_J (md_X11_init, 7, 79, 9351, n, nm_dy sk M1) 132 [some (.ref a)] [] d34 79 9351 := by
  refine nm_aload_n (q := 133) d_X11_init_132 rfl rfl ?_
  refine nm_iconst (q := 134) (v := 0) d_X11_init_133 rfl (by decide) ?_
  refine nm_iconst (q := 135) (v := 2) d_X11_init_134 rfl (by decide) ?_
  refine nm_iconst (q := 136) (v := 2) d_X11_init_135 rfl (by decide) ?_
  refine nm_callV (q := 139) (sk := sk) (M := M) (d' := 5) [] [.int (0 : Int32), .int (2 : Int32), .int (2 : Int32)] d_X11_init_136 rfl lkc_X11_82 (E34.trans hdy) hA rfl rfl rfl (Nat.le_of_ble_eq_true rfl) (Nat.le_of_ble_eq_true rfl) (Nat.le_of_ble_eq_true rfl) (Nat.le_of_ble_eq_true rfl) hC ?_
  exact nm_ret (nc := 79) (ns := 9351) d_X11_init_139 rfl rfl rfl
set_option maxRecDepth 100000 in
set_option maxHeartbeats 1000000 in
theorem cN_X11_p11 {dh d31 : List nm_E} {a n : Nat} (han : a < n) (hp : 0 < n) (l31 : d31.length = (n + 77)) (t31 : d31[a]? = some (.inr (11, [.ref n, .ref (n + 4), .ref (n + 23), .ref (n + 25), .ref (n + 51), .ref (n + 56), .ref (n + 61), .ref (n + 63), .ref (n + 66), .ref (n + 75), .int 0, .ref (n + 76), .int 0, .null, .int 0, .int 0, .int 0, .int 0]))) (E31 : d31 = nm_X11_31 dh a n) {sk : List sm_Sh} {M M1 : sm_M} {fs9 : List (Option Nat)} (hdy : nm_X11_34 dh a n = nm_dy sk M) (hA : sk[a]? = some (.inr (11, fs9))) (hC : sm_Ct yX11_beginFamily md_X11_beginFamily 5 sk (.ref a :: [.int (0 : Int32), .int (2 : Int32), .int (2 : Int32)]) M (.inl none) M1) : nm_J (md_X11_init, 7, 79, 9351, n, nm_dy sk M1) 121 [some (.ref a)] [] d31 77 9109 := by
  refine nm_aload_n (q := 122) d_X11_init_121 rfl rfl ?_
  refine nm_new (nc := 77) (ns := 9109) (q := 125) (n := (n + 77)) (N := 2) [.null, .int 0] d_X11_init_122 rfl nw_X11_23 (fun r h => by cases h; rfl) fd_7 (fun _ => rfl) l31 rfl (Nat.succ_pos _) (Nat.le_of_ble_eq_true rfl) (Nat.le_of_ble_eq_true rfl) (fun d32 e32 => ?_)
  have l32 : d32.length = (n + 78) := nm_la e32 l31
  have t32 : d32[a]? = some (.inr (11, [.ref n, .ref (n + 4), .ref (n + 23), .ref (n + 25), .ref (n + 51), .ref (n + 56), .ref (n + 61), .ref (n + 63), .ref (n + 66), .ref (n + 75), .int 0, .ref (n + 76), .int 0, .null, .int 0, .int 0, .int 0, .int 0])) := by rw [e32]; exact nm_l1 t31
  have y32 : d32[(n + 77)]? = some (.inr (7, [.null, .int 0])) := by rw [e32]; exact nm_l3 l31
  have E32 : d32 = nm_X11_32 dh a n := by rw [e32, E31]; rfl
  refine nm_dup (q := 126) d_X11_init_125 rfl rfl ?_
  refine nm_callI (nc := 78) (ns := 9111) (q := 129) (n := (n + 78)) (d' := 1) (mc' := 1) (ms' := 240) d_X11_init_126 rfl hl_X11_25 li_7 (Nat.le_of_ble_eq_true rfl) (Nat.le_of_ble_eq_true rfl) l32 rfl (Nat.succ_pos _) (Nat.le_of_ble_eq_true rfl) (Nat.le_of_ble_eq_true rfl) (cN_X7 l32 y32) (fun d33 e33 => ?_)
  have l33 : d33.length = (n + 79) := by rw [e33]; exact nl_X7 l32
  have t33 : d33[a]? = some (.inr (11, [.ref n, .ref (n + 4), .ref (n + 23), .ref (n + 25), .ref (n + 51), .ref (n + 56), .ref (n + 61), .ref (n + 63), .ref (n + 66), .ref (n + 75), .int 0, .ref (n + 76), .int 0, .null, .int 0, .int 0, .int 0, .int 0])) := by rw [e33]; exact np_X7 (nm_o2 77 han) (nm_o3 78 han) t32
  have E33 : d33 = nm_X11_33 dh a n := by rw [e33, E32]; rfl
  refine nm_putF (q := 132) (fs1 := [.ref n, .ref (n + 4), .ref (n + 23), .ref (n + 25), .ref (n + 51), .ref (n + 56), .ref (n + 61), .ref (n + 63), .ref (n + 66), .ref (n + 75), .int 0, .ref (n + 76), .int 0, .ref (n + 77), .int 0, .int 0, .int 0, .int 0]) d_X11_init_129 rfl ff_X11_79 t33 (Nat.le_of_ble_eq_true rfl) (fun _ => ⟨rfl, rfl⟩) rfl (fun d34 e34 => ?_)
  have l34 : d34.length = (n + 79) := nm_ls e34 l33
  have t34 : d34[a]? = some (.inr (11, [.ref n, .ref (n + 4), .ref (n + 23), .ref (n + 25), .ref (n + 51), .ref (n + 56), .ref (n + 61), .ref (n + 63), .ref (n + 66), .ref (n + 75), .int 0, .ref (n + 76), .int 0, .ref (n + 77), .int 0, .int 0, .int 0, .int 0])) := by rw [e34]; exact nm_l2 t33
  have E34 : d34 = nm_X11_34 dh a n := by rw [e34, E33]; rfl
  exact cN_X11_p12 han hp l34 t34 E34 hdy hA hC
set_option maxRecDepth 100000 in
set_option maxHeartbeats 1000000 in
theorem cN_X11_p10 {dh d29 : List nm_E} {a n : Nat} (han : a < n) (hp : 0 < n) (l29 : d29.length = (n + 76)) (t29 : d29[a]? = some (.inr (11, [.ref n, .ref (n + 4), .ref (n + 23), .ref (n + 25), .ref (n + 51), .ref (n + 56), .ref (n + 61), .ref (n + 63), .ref (n + 66), .ref (n + 75), .int 0, .null, .int 0, .null, .int 0, .int 0, .int 0, .int 0]))) (E29 : d29 = nm_X11_29 dh a n) {sk : List sm_Sh} {M M1 : sm_M} {fs9 : List (Option Nat)} (hdy : nm_X11_34 dh a n = nm_dy sk M) (hA : sk[a]? = some (.inr (11, fs9))) (hC : sm_Ct yX11_beginFamily md_X11_beginFamily 5 sk (.ref a :: [.int (0 : Int32), .int (2 : Int32), .int (2 : Int32)]) M (.inl none) M1) : nm_J (md_X11_init, 7, 79, 9351, n, nm_dy sk M1) 112 [some (.ref a)] [] d29 76 8869 := by
  refine nm_aload_n (q := 113) d_X11_init_112 rfl rfl ?_
  refine nm_sipush (q := 116) (v := 240) d_X11_init_113 rfl (by decide) ?_
  refine nm_newarray (nc := 76) (ns := 8869) (q := 118) (n := (n + 76)) (N := 240) d_X11_init_116 rfl ac_1 (Or.inr (Or.inl ⟨rfl, rfl⟩)) (by decide) (by decide) (Nat.le_of_ble_eq_true rfl) l29 rfl (Nat.succ_pos _) (Nat.le_of_ble_eq_true rfl) (Nat.le_of_ble_eq_true rfl) (fun d30 e30 => ?_)
  have l30 : d30.length = (n + 77) := nm_la e30 l29
  have t30 : d30[a]? = some (.inr (11, [.ref n, .ref (n + 4), .ref (n + 23), .ref (n + 25), .ref (n + 51), .ref (n + 56), .ref (n + 61), .ref (n + 63), .ref (n + 66), .ref (n + 75), .int 0, .null, .int 0, .null, .int 0, .int 0, .int 0, .int 0])) := by rw [e30]; exact nm_l1 t29
  have E30 : d30 = nm_X11_30 dh a n := by rw [e30, E29]; rfl
  refine nm_putF (q := 121) (fs1 := [.ref n, .ref (n + 4), .ref (n + 23), .ref (n + 25), .ref (n + 51), .ref (n + 56), .ref (n + 61), .ref (n + 63), .ref (n + 66), .ref (n + 75), .int 0, .ref (n + 76), .int 0, .null, .int 0, .int 0, .int 0, .int 0]) d_X11_init_118 rfl ff_X11_76 t30 (Nat.le_of_ble_eq_true rfl) (fun _ => ⟨rfl, rfl⟩) rfl (fun d31 e31 => ?_)
  have l31 : d31.length = (n + 77) := nm_ls e31 l30
  have t31 : d31[a]? = some (.inr (11, [.ref n, .ref (n + 4), .ref (n + 23), .ref (n + 25), .ref (n + 51), .ref (n + 56), .ref (n + 61), .ref (n + 63), .ref (n + 66), .ref (n + 75), .int 0, .ref (n + 76), .int 0, .null, .int 0, .int 0, .int 0, .int 0])) := by rw [e31]; exact nm_l2 t30
  have E31 : d31 = nm_X11_31 dh a n := by rw [e31, E30]; rfl
  exact cN_X11_p11 han hp l31 t31 E31 hdy hA hC
set_option maxRecDepth 100000 in
set_option maxHeartbeats 1000000 in
theorem cN_X11_p9 {dh d27 : List nm_E} {a n : Nat} (han : a < n) (hp : 0 < n) (l27 : d27.length = (n + 75)) (t27 : d27[a]? = some (.inr (11, [.ref n, .ref (n + 4), .ref (n + 23), .ref (n + 25), .ref (n + 51), .ref (n + 56), .ref (n + 61), .ref (n + 63), .ref (n + 66), .null, .int 0, .null, .int 0, .null, .int 0, .int 0, .int 0, .int 0]))) (E27 : d27 = nm_X11_27 dh a n) {sk : List sm_Sh} {M M1 : sm_M} {fs9 : List (Option Nat)} (hdy : nm_X11_34 dh a n = nm_dy sk M) (hA : sk[a]? = some (.inr (11, fs9))) (hC : sm_Ct yX11_beginFamily md_X11_beginFamily 5 sk (.ref a :: [.int (0 : Int32), .int (2 : Int32), .int (2 : Int32)]) M (.inl none) M1) : nm_J (md_X11_init, 7, 79, 9351, n, nm_dy sk M1) 103 [some (.ref a)] [] d27 75 8629 := by
  refine nm_aload_n (q := 104) d_X11_init_103 rfl rfl ?_
  refine nm_sipush (q := 107) (v := 240) d_X11_init_104 rfl (by decide) ?_
  refine nm_newarray (nc := 75) (ns := 8629) (q := 109) (n := (n + 75)) (N := 240) d_X11_init_107 rfl ac_1 (Or.inr (Or.inl ⟨rfl, rfl⟩)) (by decide) (by decide) (Nat.le_of_ble_eq_true rfl) l27 rfl (Nat.succ_pos _) (Nat.le_of_ble_eq_true rfl) (Nat.le_of_ble_eq_true rfl) (fun d28 e28 => ?_)
  have l28 : d28.length = (n + 76) := nm_la e28 l27
  have t28 : d28[a]? = some (.inr (11, [.ref n, .ref (n + 4), .ref (n + 23), .ref (n + 25), .ref (n + 51), .ref (n + 56), .ref (n + 61), .ref (n + 63), .ref (n + 66), .null, .int 0, .null, .int 0, .null, .int 0, .int 0, .int 0, .int 0])) := by rw [e28]; exact nm_l1 t27
  have E28 : d28 = nm_X11_28 dh a n := by rw [e28, E27]; rfl
  refine nm_putF (q := 112) (fs1 := [.ref n, .ref (n + 4), .ref (n + 23), .ref (n + 25), .ref (n + 51), .ref (n + 56), .ref (n + 61), .ref (n + 63), .ref (n + 66), .ref (n + 75), .int 0, .null, .int 0, .null, .int 0, .int 0, .int 0, .int 0]) d_X11_init_109 rfl ff_X11_72 t28 (Nat.le_of_ble_eq_true rfl) (fun _ => ⟨rfl, rfl⟩) rfl (fun d29 e29 => ?_)
  have l29 : d29.length = (n + 76) := nm_ls e29 l28
  have t29 : d29[a]? = some (.inr (11, [.ref n, .ref (n + 4), .ref (n + 23), .ref (n + 25), .ref (n + 51), .ref (n + 56), .ref (n + 61), .ref (n + 63), .ref (n + 66), .ref (n + 75), .int 0, .null, .int 0, .null, .int 0, .int 0, .int 0, .int 0])) := by rw [e29]; exact nm_l2 t28
  have E29 : d29 = nm_X11_29 dh a n := by rw [e29, E28]; rfl
  exact cN_X11_p10 han hp l29 t29 E29 hdy hA hC
set_option maxRecDepth 100000 in
set_option maxHeartbeats 1000000 in
theorem cN_X11_p8 {dh d24 : List nm_E} {a n : Nat} (han : a < n) (hp : 0 < n) (l24 : d24.length = (n + 66)) (t24 : d24[a]? = some (.inr (11, [.ref n, .ref (n + 4), .ref (n + 23), .ref (n + 25), .ref (n + 51), .ref (n + 56), .ref (n + 61), .ref (n + 63), .null, .null, .int 0, .null, .int 0, .null, .int 0, .int 0, .int 0, .int 0]))) (E24 : d24 = nm_X11_24 dh a n) {sk : List sm_Sh} {M M1 : sm_M} {fs9 : List (Option Nat)} (hdy : nm_X11_34 dh a n = nm_dy sk M) (hA : sk[a]? = some (.inr (11, fs9))) (hC : sm_Ct yX11_beginFamily md_X11_beginFamily 5 sk (.ref a :: [.int (0 : Int32), .int (2 : Int32), .int (2 : Int32)]) M (.inl none) M1) : nm_J (md_X11_init, 7, 79, 9351, n, nm_dy sk M1) 92 [some (.ref a)] [] d24 66 8572 := by
  refine nm_aload_n (q := 93) d_X11_init_92 rfl rfl ?_
  refine nm_new (nc := 66) (ns := 8572) (q := 96) (n := (n + 66)) (N := 1) [.null] d_X11_init_93 rfl nw_X11_65 (fun r h => by cases h; rfl) fd_0 (fun _ => rfl) l24 rfl (Nat.succ_pos _) (Nat.le_of_ble_eq_true rfl) (Nat.le_of_ble_eq_true rfl) (fun d25 e25 => ?_)
  have l25 : d25.length = (n + 67) := nm_la e25 l24
  have t25 : d25[a]? = some (.inr (11, [.ref n, .ref (n + 4), .ref (n + 23), .ref (n + 25), .ref (n + 51), .ref (n + 56), .ref (n + 61), .ref (n + 63), .null, .null, .int 0, .null, .int 0, .null, .int 0, .int 0, .int 0, .int 0])) := by rw [e25]; exact nm_l1 t24
  have y25 : d25[(n + 66)]? = some (.inr (0, [.null])) := by rw [e25]; exact nm_l3 l24
  have E25 : d25 = nm_X11_25 dh a n := by rw [e25, E24]; rfl
  refine nm_dup (q := 97) d_X11_init_96 rfl rfl ?_
  refine nm_callI (nc := 67) (ns := 8573) (q := 100) (n := (n + 67)) (d' := 1) (mc' := 8) (ms' := 56) d_X11_init_97 rfl hl_X11_67 li_0 (Nat.le_of_ble_eq_true rfl) (Nat.le_of_ble_eq_true rfl) l25 rfl (Nat.succ_pos _) (Nat.le_of_ble_eq_true rfl) (Nat.le_of_ble_eq_true rfl) (cN_X0 l25 y25) (fun d26 e26 => ?_)
  have l26 : d26.length = (n + 75) := by rw [e26]; exact nl_X0 l25
  have t26 : d26[a]? = some (.inr (11, [.ref n, .ref (n + 4), .ref (n + 23), .ref (n + 25), .ref (n + 51), .ref (n + 56), .ref (n + 61), .ref (n + 63), .null, .null, .int 0, .null, .int 0, .null, .int 0, .int 0, .int 0, .int 0])) := by rw [e26]; exact np_X0 (nm_o2 66 han) (nm_o3 67 han) t25
  have E26 : d26 = nm_X11_26 dh a n := by rw [e26, E25]; rfl
  refine nm_putF (q := 103) (fs1 := [.ref n, .ref (n + 4), .ref (n + 23), .ref (n + 25), .ref (n + 51), .ref (n + 56), .ref (n + 61), .ref (n + 63), .ref (n + 66), .null, .int 0, .null, .int 0, .null, .int 0, .int 0, .int 0, .int 0]) d_X11_init_100 rfl ff_X11_68 t26 (Nat.le_of_ble_eq_true rfl) (fun _ => ⟨rfl, rfl⟩) rfl (fun d27 e27 => ?_)
  have l27 : d27.length = (n + 75) := nm_ls e27 l26
  have t27 : d27[a]? = some (.inr (11, [.ref n, .ref (n + 4), .ref (n + 23), .ref (n + 25), .ref (n + 51), .ref (n + 56), .ref (n + 61), .ref (n + 63), .ref (n + 66), .null, .int 0, .null, .int 0, .null, .int 0, .int 0, .int 0, .int 0])) := by rw [e27]; exact nm_l2 t26
  have E27 : d27 = nm_X11_27 dh a n := by rw [e27, E26]; rfl
  exact cN_X11_p9 han hp l27 t27 E27 hdy hA hC
set_option maxRecDepth 100000 in
set_option maxHeartbeats 1000000 in
theorem cN_X11_p7 {dh d21 : List nm_E} {a n : Nat} (han : a < n) (hp : 0 < n) (l21 : d21.length = (n + 63)) (t21 : d21[a]? = some (.inr (11, [.ref n, .ref (n + 4), .ref (n + 23), .ref (n + 25), .ref (n + 51), .ref (n + 56), .ref (n + 61), .null, .null, .null, .int 0, .null, .int 0, .null, .int 0, .int 0, .int 0, .int 0]))) (E21 : d21 = nm_X11_21 dh a n) {sk : List sm_Sh} {M M1 : sm_M} {fs9 : List (Option Nat)} (hdy : nm_X11_34 dh a n = nm_dy sk M) (hA : sk[a]? = some (.inr (11, fs9))) (hC : sm_Ct yX11_beginFamily md_X11_beginFamily 5 sk (.ref a :: [.int (0 : Int32), .int (2 : Int32), .int (2 : Int32)]) M (.inl none) M1) : nm_J (md_X11_init, 7, 79, 9351, n, nm_dy sk M1) 81 [some (.ref a)] [] d21 63 8329 := by
  refine nm_aload_n (q := 82) d_X11_init_81 rfl rfl ?_
  refine nm_new (nc := 63) (ns := 8329) (q := 85) (n := (n + 63)) (N := 1) [.null] d_X11_init_82 rfl nw_X11_58 (fun r h => by cases h; rfl) fd_9 (fun _ => rfl) l21 rfl (Nat.succ_pos _) (Nat.le_of_ble_eq_true rfl) (Nat.le_of_ble_eq_true rfl) (fun d22 e22 => ?_)
  have l22 : d22.length = (n + 64) := nm_la e22 l21
  have t22 : d22[a]? = some (.inr (11, [.ref n, .ref (n + 4), .ref (n + 23), .ref (n + 25), .ref (n + 51), .ref (n + 56), .ref (n + 61), .null, .null, .null, .int 0, .null, .int 0, .null, .int 0, .int 0, .int 0, .int 0])) := by rw [e22]; exact nm_l1 t21
  have y22 : d22[(n + 63)]? = some (.inr (9, [.null])) := by rw [e22]; exact nm_l3 l21
  have E22 : d22 = nm_X11_22 dh a n := by rw [e22, E21]; rfl
  refine nm_dup (q := 86) d_X11_init_85 rfl rfl ?_
  refine nm_callI (nc := 64) (ns := 8330) (q := 89) (n := (n + 64)) (d' := 3) (mc' := 2) (ms' := 242) d_X11_init_86 rfl hl_X11_60 li_9 (Nat.le_of_ble_eq_true rfl) (Nat.le_of_ble_eq_true rfl) l22 rfl (Nat.succ_pos _) (Nat.le_of_ble_eq_true rfl) (Nat.le_of_ble_eq_true rfl) (cN_X9 l22 y22) (fun d23 e23 => ?_)
  have l23 : d23.length = (n + 66) := by rw [e23]; exact nl_X9 l22
  have t23 : d23[a]? = some (.inr (11, [.ref n, .ref (n + 4), .ref (n + 23), .ref (n + 25), .ref (n + 51), .ref (n + 56), .ref (n + 61), .null, .null, .null, .int 0, .null, .int 0, .null, .int 0, .int 0, .int 0, .int 0])) := by rw [e23]; exact np_X9 (nm_o2 63 han) (nm_o3 64 han) t22
  have E23 : d23 = nm_X11_23 dh a n := by rw [e23, E22]; rfl
  refine nm_putF (q := 92) (fs1 := [.ref n, .ref (n + 4), .ref (n + 23), .ref (n + 25), .ref (n + 51), .ref (n + 56), .ref (n + 61), .ref (n + 63), .null, .null, .int 0, .null, .int 0, .null, .int 0, .int 0, .int 0, .int 0]) d_X11_init_89 rfl ff_X11_61 t23 (Nat.le_of_ble_eq_true rfl) (fun _ => ⟨rfl, rfl⟩) rfl (fun d24 e24 => ?_)
  have l24 : d24.length = (n + 66) := nm_ls e24 l23
  have t24 : d24[a]? = some (.inr (11, [.ref n, .ref (n + 4), .ref (n + 23), .ref (n + 25), .ref (n + 51), .ref (n + 56), .ref (n + 61), .ref (n + 63), .null, .null, .int 0, .null, .int 0, .null, .int 0, .int 0, .int 0, .int 0])) := by rw [e24]; exact nm_l2 t23
  have E24 : d24 = nm_X11_24 dh a n := by rw [e24, E23]; rfl
  exact cN_X11_p8 han hp l24 t24 E24 hdy hA hC
set_option maxRecDepth 100000 in
set_option maxHeartbeats 1000000 in
theorem cN_X11_p6 {dh d18 : List nm_E} {a n : Nat} (han : a < n) (hp : 0 < n) (l18 : d18.length = (n + 61)) (t18 : d18[a]? = some (.inr (11, [.ref n, .ref (n + 4), .ref (n + 23), .ref (n + 25), .ref (n + 51), .ref (n + 56), .null, .null, .null, .null, .int 0, .null, .int 0, .null, .int 0, .int 0, .int 0, .int 0]))) (E18 : d18 = nm_X11_18 dh a n) {sk : List sm_Sh} {M M1 : sm_M} {fs9 : List (Option Nat)} (hdy : nm_X11_34 dh a n = nm_dy sk M) (hA : sk[a]? = some (.inr (11, fs9))) (hC : sm_Ct yX11_beginFamily md_X11_beginFamily 5 sk (.ref a :: [.int (0 : Int32), .int (2 : Int32), .int (2 : Int32)]) M (.inl none) M1) : nm_J (md_X11_init, 7, 79, 9351, n, nm_dy sk M1) 70 [some (.ref a)] [] d18 61 8128 := by
  refine nm_aload_n (q := 71) d_X11_init_70 rfl rfl ?_
  refine nm_new (nc := 61) (ns := 8128) (q := 74) (n := (n + 61)) (N := 1) [.null] d_X11_init_71 rfl nw_X11_51 (fun r h => by cases h; rfl) fd_5 (fun _ => rfl) l18 rfl (Nat.succ_pos _) (Nat.le_of_ble_eq_true rfl) (Nat.le_of_ble_eq_true rfl) (fun d19 e19 => ?_)
  have l19 : d19.length = (n + 62) := nm_la e19 l18
  have t19 : d19[a]? = some (.inr (11, [.ref n, .ref (n + 4), .ref (n + 23), .ref (n + 25), .ref (n + 51), .ref (n + 56), .null, .null, .null, .null, .int 0, .null, .int 0, .null, .int 0, .int 0, .int 0, .int 0])) := by rw [e19]; exact nm_l1 t18
  have y19 : d19[(n + 61)]? = some (.inr (5, [.null])) := by rw [e19]; exact nm_l3 l18
  have E19 : d19 = nm_X11_19 dh a n := by rw [e19, E18]; rfl
  refine nm_dup (q := 75) d_X11_init_74 rfl rfl ?_
  refine nm_callI (nc := 62) (ns := 8129) (q := 78) (n := (n + 62)) (d' := 1) (mc' := 1) (ms' := 200) d_X11_init_75 rfl hl_X11_53 li_5 (Nat.le_of_ble_eq_true rfl) (Nat.le_of_ble_eq_true rfl) l19 rfl (Nat.succ_pos _) (Nat.le_of_ble_eq_true rfl) (Nat.le_of_ble_eq_true rfl) (cN_X5 l19 y19) (fun d20 e20 => ?_)
  have l20 : d20.length = (n + 63) := by rw [e20]; exact nl_X5 l19
  have t20 : d20[a]? = some (.inr (11, [.ref n, .ref (n + 4), .ref (n + 23), .ref (n + 25), .ref (n + 51), .ref (n + 56), .null, .null, .null, .null, .int 0, .null, .int 0, .null, .int 0, .int 0, .int 0, .int 0])) := by rw [e20]; exact np_X5 (nm_o2 61 han) (nm_o3 62 han) t19
  have E20 : d20 = nm_X11_20 dh a n := by rw [e20, E19]; rfl
  refine nm_putF (q := 81) (fs1 := [.ref n, .ref (n + 4), .ref (n + 23), .ref (n + 25), .ref (n + 51), .ref (n + 56), .ref (n + 61), .null, .null, .null, .int 0, .null, .int 0, .null, .int 0, .int 0, .int 0, .int 0]) d_X11_init_78 rfl ff_X11_54 t20 (Nat.le_of_ble_eq_true rfl) (fun _ => ⟨rfl, rfl⟩) rfl (fun d21 e21 => ?_)
  have l21 : d21.length = (n + 63) := nm_ls e21 l20
  have t21 : d21[a]? = some (.inr (11, [.ref n, .ref (n + 4), .ref (n + 23), .ref (n + 25), .ref (n + 51), .ref (n + 56), .ref (n + 61), .null, .null, .null, .int 0, .null, .int 0, .null, .int 0, .int 0, .int 0, .int 0])) := by rw [e21]; exact nm_l2 t20
  have E21 : d21 = nm_X11_21 dh a n := by rw [e21, E20]; rfl
  exact cN_X11_p7 han hp l21 t21 E21 hdy hA hC
set_option maxRecDepth 100000 in
set_option maxHeartbeats 1000000 in
theorem cN_X11_p5 {dh d15 : List nm_E} {a n : Nat} (han : a < n) (hp : 0 < n) (l15 : d15.length = (n + 56)) (t15 : d15[a]? = some (.inr (11, [.ref n, .ref (n + 4), .ref (n + 23), .ref (n + 25), .ref (n + 51), .null, .null, .null, .null, .null, .int 0, .null, .int 0, .null, .int 0, .int 0, .int 0, .int 0]))) (E15 : d15 = nm_X11_15 dh a n) {sk : List sm_Sh} {M M1 : sm_M} {fs9 : List (Option Nat)} (hdy : nm_X11_34 dh a n = nm_dy sk M) (hA : sk[a]? = some (.inr (11, fs9))) (hC : sm_Ct yX11_beginFamily md_X11_beginFamily 5 sk (.ref a :: [.int (0 : Int32), .int (2 : Int32), .int (2 : Int32)]) M (.inl none) M1) : nm_J (md_X11_init, 7, 79, 9351, n, nm_dy sk M1) 59 [some (.ref a)] [] d15 56 7441 := by
  refine nm_aload_n (q := 60) d_X11_init_59 rfl rfl ?_
  refine nm_new (nc := 56) (ns := 7441) (q := 63) (n := (n + 56)) (N := 5) [.null, .null, .null, .int 0, .int 0] d_X11_init_60 rfl nw_X11_44 (fun r h => by cases h; rfl) fd_8 (fun _ => rfl) l15 rfl (Nat.succ_pos _) (Nat.le_of_ble_eq_true rfl) (Nat.le_of_ble_eq_true rfl) (fun d16 e16 => ?_)
  have l16 : d16.length = (n + 57) := nm_la e16 l15
  have t16 : d16[a]? = some (.inr (11, [.ref n, .ref (n + 4), .ref (n + 23), .ref (n + 25), .ref (n + 51), .null, .null, .null, .null, .null, .int 0, .null, .int 0, .null, .int 0, .int 0, .int 0, .int 0])) := by rw [e16]; exact nm_l1 t15
  have y16 : d16[(n + 56)]? = some (.inr (8, [.null, .null, .null, .int 0, .int 0])) := by rw [e16]; exact nm_l3 l15
  have E16 : d16 = nm_X11_16 dh a n := by rw [e16, E15]; rfl
  refine nm_dup (q := 64) d_X11_init_63 rfl rfl ?_
  refine nm_callI (nc := 57) (ns := 7446) (q := 67) (n := (n + 57)) (d' := 3) (mc' := 4) (ms' := 682) d_X11_init_64 rfl hl_X11_46 li_8 (Nat.le_of_ble_eq_true rfl) (Nat.le_of_ble_eq_true rfl) l16 rfl (Nat.succ_pos _) (Nat.le_of_ble_eq_true rfl) (Nat.le_of_ble_eq_true rfl) (cN_X8 l16 y16) (fun d17 e17 => ?_)
  have l17 : d17.length = (n + 61) := by rw [e17]; exact nl_X8 l16
  have t17 : d17[a]? = some (.inr (11, [.ref n, .ref (n + 4), .ref (n + 23), .ref (n + 25), .ref (n + 51), .null, .null, .null, .null, .null, .int 0, .null, .int 0, .null, .int 0, .int 0, .int 0, .int 0])) := by rw [e17]; exact np_X8 (nm_o2 56 han) (nm_o3 57 han) t16
  have E17 : d17 = nm_X11_17 dh a n := by rw [e17, E16]; rfl
  refine nm_putF (q := 70) (fs1 := [.ref n, .ref (n + 4), .ref (n + 23), .ref (n + 25), .ref (n + 51), .ref (n + 56), .null, .null, .null, .null, .int 0, .null, .int 0, .null, .int 0, .int 0, .int 0, .int 0]) d_X11_init_67 rfl ff_X11_47 t17 (Nat.le_of_ble_eq_true rfl) (fun _ => ⟨rfl, rfl⟩) rfl (fun d18 e18 => ?_)
  have l18 : d18.length = (n + 61) := nm_ls e18 l17
  have t18 : d18[a]? = some (.inr (11, [.ref n, .ref (n + 4), .ref (n + 23), .ref (n + 25), .ref (n + 51), .ref (n + 56), .null, .null, .null, .null, .int 0, .null, .int 0, .null, .int 0, .int 0, .int 0, .int 0])) := by rw [e18]; exact nm_l2 t17
  have E18 : d18 = nm_X11_18 dh a n := by rw [e18, E17]; rfl
  exact cN_X11_p6 han hp l18 t18 E18 hdy hA hC
set_option maxRecDepth 100000 in
set_option maxHeartbeats 1000000 in
theorem cN_X11_p4 {dh d12 : List nm_E} {a n : Nat} (han : a < n) (hp : 0 < n) (l12 : d12.length = (n + 51)) (t12 : d12[a]? = some (.inr (11, [.ref n, .ref (n + 4), .ref (n + 23), .ref (n + 25), .null, .null, .null, .null, .null, .null, .int 0, .null, .int 0, .null, .int 0, .int 0, .int 0, .int 0]))) (E12 : d12 = nm_X11_12 dh a n) {sk : List sm_Sh} {M M1 : sm_M} {fs9 : List (Option Nat)} (hdy : nm_X11_34 dh a n = nm_dy sk M) (hA : sk[a]? = some (.inr (11, fs9))) (hC : sm_Ct yX11_beginFamily md_X11_beginFamily 5 sk (.ref a :: [.int (0 : Int32), .int (2 : Int32), .int (2 : Int32)]) M (.inl none) M1) : nm_J (md_X11_init, 7, 79, 9351, n, nm_dy sk M1) 48 [some (.ref a)] [] d12 51 6593 := by
  refine nm_aload_n (q := 49) d_X11_init_48 rfl rfl ?_
  refine nm_new (nc := 51) (ns := 6593) (q := 52) (n := (n + 51)) (N := 8) [.null, .null, .null, .null, .int 0, .int 0, .int 0, .int 0] d_X11_init_49 rfl nw_X11_37 (fun r h => by cases h; rfl) fd_10 (fun _ => rfl) l12 rfl (Nat.succ_pos _) (Nat.le_of_ble_eq_true rfl) (Nat.le_of_ble_eq_true rfl) (fun d13 e13 => ?_)
  have l13 : d13.length = (n + 52) := nm_la e13 l12
  have t13 : d13[a]? = some (.inr (11, [.ref n, .ref (n + 4), .ref (n + 23), .ref (n + 25), .null, .null, .null, .null, .null, .null, .int 0, .null, .int 0, .null, .int 0, .int 0, .int 0, .int 0])) := by rw [e13]; exact nm_l1 t12
  have y13 : d13[(n + 51)]? = some (.inr (10, [.null, .null, .null, .null, .int 0, .int 0, .int 0, .int 0])) := by rw [e13]; exact nm_l3 l12
  have E13 : d13 = nm_X11_13 dh a n := by rw [e13, E12]; rfl
  refine nm_dup (q := 53) d_X11_init_52 rfl rfl ?_
  refine nm_callI (nc := 52) (ns := 6601) (q := 56) (n := (n + 52)) (d' := 1) (mc' := 4) (ms' := 840) d_X11_init_53 rfl hl_X11_39 li_10 (Nat.le_of_ble_eq_true rfl) (Nat.le_of_ble_eq_true rfl) l13 rfl (Nat.succ_pos _) (Nat.le_of_ble_eq_true rfl) (Nat.le_of_ble_eq_true rfl) (cN_X10 l13 y13) (fun d14 e14 => ?_)
  have l14 : d14.length = (n + 56) := by rw [e14]; exact nl_X10 l13
  have t14 : d14[a]? = some (.inr (11, [.ref n, .ref (n + 4), .ref (n + 23), .ref (n + 25), .null, .null, .null, .null, .null, .null, .int 0, .null, .int 0, .null, .int 0, .int 0, .int 0, .int 0])) := by rw [e14]; exact np_X10 (nm_o2 51 han) (nm_o3 52 han) t13
  have E14 : d14 = nm_X11_14 dh a n := by rw [e14, E13]; rfl
  refine nm_putF (q := 59) (fs1 := [.ref n, .ref (n + 4), .ref (n + 23), .ref (n + 25), .ref (n + 51), .null, .null, .null, .null, .null, .int 0, .null, .int 0, .null, .int 0, .int 0, .int 0, .int 0]) d_X11_init_56 rfl ff_X11_40 t14 (Nat.le_of_ble_eq_true rfl) (fun _ => ⟨rfl, rfl⟩) rfl (fun d15 e15 => ?_)
  have l15 : d15.length = (n + 56) := nm_ls e15 l14
  have t15 : d15[a]? = some (.inr (11, [.ref n, .ref (n + 4), .ref (n + 23), .ref (n + 25), .ref (n + 51), .null, .null, .null, .null, .null, .int 0, .null, .int 0, .null, .int 0, .int 0, .int 0, .int 0])) := by rw [e15]; exact nm_l2 t14
  have E15 : d15 = nm_X11_15 dh a n := by rw [e15, E14]; rfl
  exact cN_X11_p5 han hp l15 t15 E15 hdy hA hC
set_option maxRecDepth 100000 in
set_option maxHeartbeats 1000000 in
theorem cN_X11_p3 {dh d9 : List nm_E} {a n : Nat} (han : a < n) (hp : 0 < n) (l9 : d9.length = (n + 25)) (t9 : d9[a]? = some (.inr (11, [.ref n, .ref (n + 4), .ref (n + 23), .null, .null, .null, .null, .null, .null, .null, .int 0, .null, .int 0, .null, .int 0, .int 0, .int 0, .int 0]))) (E9 : d9 = nm_X11_9 dh a n) {sk : List sm_Sh} {M M1 : sm_M} {fs9 : List (Option Nat)} (hdy : nm_X11_34 dh a n = nm_dy sk M) (hA : sk[a]? = some (.inr (11, fs9))) (hC : sm_Ct yX11_beginFamily md_X11_beginFamily 5 sk (.ref a :: [.int (0 : Int32), .int (2 : Int32), .int (2 : Int32)]) M (.inl none) M1) : nm_J (md_X11_init, 7, 79, 9351, n, nm_dy sk M1) 37 [some (.ref a)] [] d9 25 3674 := by
  refine nm_aload_n (q := 38) d_X11_init_37 rfl rfl ?_
  refine nm_new (nc := 25) (ns := 3674) (q := 41) (n := (n + 25)) (N := 3) [.null, .int 0, .int 0] d_X11_init_38 rfl nw_X11_30 (fun r h => by cases h; rfl) fd_6 (fun _ => rfl) l9 rfl (Nat.succ_pos _) (Nat.le_of_ble_eq_true rfl) (Nat.le_of_ble_eq_true rfl) (fun d10 e10 => ?_)
  have l10 : d10.length = (n + 26) := nm_la e10 l9
  have t10 : d10[a]? = some (.inr (11, [.ref n, .ref (n + 4), .ref (n + 23), .null, .null, .null, .null, .null, .null, .null, .int 0, .null, .int 0, .null, .int 0, .int 0, .int 0, .int 0])) := by rw [e10]; exact nm_l1 t9
  have y10 : d10[(n + 25)]? = some (.inr (6, [.null, .int 0, .int 0])) := by rw [e10]; exact nm_l3 l9
  have E10 : d10 = nm_X11_10 dh a n := by rw [e10, E9]; rfl
  refine nm_dup (q := 42) d_X11_init_41 rfl rfl ?_
  refine nm_callI (nc := 26) (ns := 3677) (q := 45) (n := (n + 26)) (d' := 3) (mc' := 25) (ms' := 2916) d_X11_init_42 rfl hl_X11_32 li_6 (Nat.le_of_ble_eq_true rfl) (Nat.le_of_ble_eq_true rfl) l10 rfl (Nat.succ_pos _) (Nat.le_of_ble_eq_true rfl) (Nat.le_of_ble_eq_true rfl) (cN_X6 l10 y10) (fun d11 e11 => ?_)
  have l11 : d11.length = (n + 51) := by rw [e11]; exact nl_X6 l10
  have t11 : d11[a]? = some (.inr (11, [.ref n, .ref (n + 4), .ref (n + 23), .null, .null, .null, .null, .null, .null, .null, .int 0, .null, .int 0, .null, .int 0, .int 0, .int 0, .int 0])) := by rw [e11]; exact np_X6 (nm_o2 25 han) (nm_o3 26 han) t10
  have E11 : d11 = nm_X11_11 dh a n := by rw [e11, E10]; rfl
  refine nm_putF (q := 48) (fs1 := [.ref n, .ref (n + 4), .ref (n + 23), .ref (n + 25), .null, .null, .null, .null, .null, .null, .int 0, .null, .int 0, .null, .int 0, .int 0, .int 0, .int 0]) d_X11_init_45 rfl ff_X11_33 t11 (Nat.le_of_ble_eq_true rfl) (fun _ => ⟨rfl, rfl⟩) rfl (fun d12 e12 => ?_)
  have l12 : d12.length = (n + 51) := nm_ls e12 l11
  have t12 : d12[a]? = some (.inr (11, [.ref n, .ref (n + 4), .ref (n + 23), .ref (n + 25), .null, .null, .null, .null, .null, .null, .int 0, .null, .int 0, .null, .int 0, .int 0, .int 0, .int 0])) := by rw [e12]; exact nm_l2 t11
  have E12 : d12 = nm_X11_12 dh a n := by rw [e12, E11]; rfl
  exact cN_X11_p4 han hp l12 t12 E12 hdy hA hC
set_option maxRecDepth 100000 in
set_option maxHeartbeats 1000000 in
theorem cN_X11_p2 {dh d6 : List nm_E} {a n : Nat} (han : a < n) (hp : 0 < n) (l6 : d6.length = (n + 23)) (t6 : d6[a]? = some (.inr (11, [.ref n, .ref (n + 4), .null, .null, .null, .null, .null, .null, .null, .null, .int 0, .null, .int 0, .null, .int 0, .int 0, .int 0, .int 0]))) (E6 : d6 = nm_X11_6 dh a n) {sk : List sm_Sh} {M M1 : sm_M} {fs9 : List (Option Nat)} (hdy : nm_X11_34 dh a n = nm_dy sk M) (hA : sk[a]? = some (.inr (11, fs9))) (hC : sm_Ct yX11_beginFamily md_X11_beginFamily 5 sk (.ref a :: [.int (0 : Int32), .int (2 : Int32), .int (2 : Int32)]) M (.inl none) M1) : nm_J (md_X11_init, 7, 79, 9351, n, nm_dy sk M1) 26 [some (.ref a)] [] d6 23 3432 := by
  refine nm_aload_n (q := 27) d_X11_init_26 rfl rfl ?_
  refine nm_new (nc := 23) (ns := 3432) (q := 30) (n := (n + 23)) (N := 2) [.null, .int 0] d_X11_init_27 rfl nw_X11_23 (fun r h => by cases h; rfl) fd_7 (fun _ => rfl) l6 rfl (Nat.succ_pos _) (Nat.le_of_ble_eq_true rfl) (Nat.le_of_ble_eq_true rfl) (fun d7 e7 => ?_)
  have l7 : d7.length = (n + 24) := nm_la e7 l6
  have t7 : d7[a]? = some (.inr (11, [.ref n, .ref (n + 4), .null, .null, .null, .null, .null, .null, .null, .null, .int 0, .null, .int 0, .null, .int 0, .int 0, .int 0, .int 0])) := by rw [e7]; exact nm_l1 t6
  have y7 : d7[(n + 23)]? = some (.inr (7, [.null, .int 0])) := by rw [e7]; exact nm_l3 l6
  have E7 : d7 = nm_X11_7 dh a n := by rw [e7, E6]; rfl
  refine nm_dup (q := 31) d_X11_init_30 rfl rfl ?_
  refine nm_callI (nc := 24) (ns := 3434) (q := 34) (n := (n + 24)) (d' := 1) (mc' := 1) (ms' := 240) d_X11_init_31 rfl hl_X11_25 li_7 (Nat.le_of_ble_eq_true rfl) (Nat.le_of_ble_eq_true rfl) l7 rfl (Nat.succ_pos _) (Nat.le_of_ble_eq_true rfl) (Nat.le_of_ble_eq_true rfl) (cN_X7 l7 y7) (fun d8 e8 => ?_)
  have l8 : d8.length = (n + 25) := by rw [e8]; exact nl_X7 l7
  have t8 : d8[a]? = some (.inr (11, [.ref n, .ref (n + 4), .null, .null, .null, .null, .null, .null, .null, .null, .int 0, .null, .int 0, .null, .int 0, .int 0, .int 0, .int 0])) := by rw [e8]; exact np_X7 (nm_o2 23 han) (nm_o3 24 han) t7
  have E8 : d8 = nm_X11_8 dh a n := by rw [e8, E7]; rfl
  refine nm_putF (q := 37) (fs1 := [.ref n, .ref (n + 4), .ref (n + 23), .null, .null, .null, .null, .null, .null, .null, .int 0, .null, .int 0, .null, .int 0, .int 0, .int 0, .int 0]) d_X11_init_34 rfl ff_X11_26 t8 (Nat.le_of_ble_eq_true rfl) (fun _ => ⟨rfl, rfl⟩) rfl (fun d9 e9 => ?_)
  have l9 : d9.length = (n + 25) := nm_ls e9 l8
  have t9 : d9[a]? = some (.inr (11, [.ref n, .ref (n + 4), .ref (n + 23), .null, .null, .null, .null, .null, .null, .null, .int 0, .null, .int 0, .null, .int 0, .int 0, .int 0, .int 0])) := by rw [e9]; exact nm_l2 t8
  have E9 : d9 = nm_X11_9 dh a n := by rw [e9, E8]; rfl
  exact cN_X11_p3 han hp l9 t9 E9 hdy hA hC
set_option maxRecDepth 100000 in
set_option maxHeartbeats 1000000 in
theorem cN_X11_p1 {dh d3 : List nm_E} {a n : Nat} (han : a < n) (hp : 0 < n) (l3 : d3.length = (n + 4)) (t3 : d3[a]? = some (.inr (11, [.ref n, .null, .null, .null, .null, .null, .null, .null, .null, .null, .int 0, .null, .int 0, .null, .int 0, .int 0, .int 0, .int 0]))) (E3 : d3 = nm_X11_3 dh a n) {sk : List sm_Sh} {M M1 : sm_M} {fs9 : List (Option Nat)} (hdy : nm_X11_34 dh a n = nm_dy sk M) (hA : sk[a]? = some (.inr (11, fs9))) (hC : sm_Ct yX11_beginFamily md_X11_beginFamily 5 sk (.ref a :: [.int (0 : Int32), .int (2 : Int32), .int (2 : Int32)]) M (.inl none) M1) : nm_J (md_X11_init, 7, 79, 9351, n, nm_dy sk M1) 15 [some (.ref a)] [] d3 4 407 := by
  refine nm_aload_n (q := 16) d_X11_init_15 rfl rfl ?_
  refine nm_new (nc := 4) (ns := 407) (q := 19) (n := (n + 4)) (N := 12) [.null, .null, .null, .null, .null, .null, .null, .null, .null, .null, .int 0, .int 0] d_X11_init_16 rfl nw_X11_16 (fun r h => by cases h; rfl) fd_4 (fun _ => rfl) l3 rfl (Nat.succ_pos _) (Nat.le_of_ble_eq_true rfl) (Nat.le_of_ble_eq_true rfl) (fun d4 e4 => ?_)
  have l4 : d4.length = (n + 5) := nm_la e4 l3
  have t4 : d4[a]? = some (.inr (11, [.ref n, .null, .null, .null, .null, .null, .null, .null, .null, .null, .int 0, .null, .int 0, .null, .int 0, .int 0, .int 0, .int 0])) := by rw [e4]; exact nm_l1 t3
  have y4 : d4[(n + 4)]? = some (.inr (4, [.null, .null, .null, .null, .null, .null, .null, .null, .null, .null, .int 0, .int 0])) := by rw [e4]; exact nm_l3 l3
  have E4 : d4 = nm_X11_4 dh a n := by rw [e4, E3]; rfl
  refine nm_dup (q := 20) d_X11_init_19 rfl rfl ?_
  refine nm_callI (nc := 5) (ns := 419) (q := 23) (n := (n + 5)) (d' := 3) (mc' := 18) (ms' := 3013) d_X11_init_20 rfl hl_X11_18 li_4 (Nat.le_of_ble_eq_true rfl) (Nat.le_of_ble_eq_true rfl) l4 rfl (Nat.succ_pos _) (Nat.le_of_ble_eq_true rfl) (Nat.le_of_ble_eq_true rfl) (cN_X4 l4 y4) (fun d5 e5 => ?_)
  have l5 : d5.length = (n + 23) := by rw [e5]; exact nl_X4 l4
  have t5 : d5[a]? = some (.inr (11, [.ref n, .null, .null, .null, .null, .null, .null, .null, .null, .null, .int 0, .null, .int 0, .null, .int 0, .int 0, .int 0, .int 0])) := by rw [e5]; exact np_X4 (nm_o2 4 han) (nm_o3 5 han) t4
  have E5 : d5 = nm_X11_5 dh a n := by rw [e5, E4]; rfl
  refine nm_putF (q := 26) (fs1 := [.ref n, .ref (n + 4), .null, .null, .null, .null, .null, .null, .null, .null, .int 0, .null, .int 0, .null, .int 0, .int 0, .int 0, .int 0]) d_X11_init_23 rfl ff_X11_19 t5 (Nat.le_of_ble_eq_true rfl) (fun _ => ⟨rfl, rfl⟩) rfl (fun d6 e6 => ?_)
  have l6 : d6.length = (n + 23) := nm_ls e6 l5
  have t6 : d6[a]? = some (.inr (11, [.ref n, .ref (n + 4), .null, .null, .null, .null, .null, .null, .null, .null, .int 0, .null, .int 0, .null, .int 0, .int 0, .int 0, .int 0])) := by rw [e6]; exact nm_l2 t5
  have E6 : d6 = nm_X11_6 dh a n := by rw [e6, E5]; rfl
  exact cN_X11_p2 han hp l6 t6 E6 hdy hA hC
set_option maxRecDepth 100000 in
set_option maxHeartbeats 1000000 in
theorem cN_X11 {dh : List nm_E} {a n : Nat} (hn : dh.length = n) (ha : dh[a]? = some (.inr (11, [.null, .null, .null, .null, .null, .null, .null, .null, .null, .null, .int 0, .null, .int 0, .null, .int 0, .int 0, .int 0, .int 0]))) {sk : List sm_Sh} {M M1 : sm_M} {fs9 : List (Option Nat)} (hdy : nm_X11_34 dh a n = nm_dy sk M) (hA : sk[a]? = some (.inr (11, fs9))) (hC : sm_Ct yX11_beginFamily md_X11_beginFamily 5 sk (.ref a :: [.int (0 : Int32), .int (2 : Int32), .int (2 : Int32)]) M (.inl none) M1) : nm_Ct yX11_init md_X11_init 7 79 9351 [.ref a] dh (nm_dy sk M1) := by
  have han : a < n := by rw [← hn]; exact (List.getElem?_eq_some_iff.mp ha).1
  have hp : 0 < n := by omega
  refine nm_enter (ls0 := [some (.ref a)]) 0 pn_X11 rfl rfl rfl (by decide) rfl hn ?_
  refine nm_aload_n (q := 1) d_X11_init_0 rfl rfl ?_
  refine nm_objinit (q := 4) d_X11_init_1 rfl ol_X11 oi_1 oi_2 (Nat.le_of_ble_eq_true rfl) (Nat.le_of_ble_eq_true rfl) ?_
  refine nm_aload_n (q := 5) d_X11_init_4 rfl rfl ?_
  refine nm_new (nc := 0) (ns := 0) (q := 8) (n := n) (N := 4) [.null, .int 0, .int 0, .int 0] d_X11_init_5 rfl nw_X11_7 (fun r h => by cases h; rfl) fd_2 (fun _ => rfl) hn rfl hp (Nat.le_of_ble_eq_true rfl) (Nat.le_of_ble_eq_true rfl) (fun d1 e1 => ?_)
  have l1 : d1.length = (n + 1) := nm_la e1 hn
  have t1 : d1[a]? = some (.inr (11, [.null, .null, .null, .null, .null, .null, .null, .null, .null, .null, .int 0, .null, .int 0, .null, .int 0, .int 0, .int 0, .int 0])) := by rw [e1]; exact nm_l1 ha
  have y1 : d1[n]? = some (.inr (2, [.null, .int 0, .int 0, .int 0])) := by rw [e1]; exact nm_l3 hn
  have E1 : d1 = nm_X11_1 dh a n := by rw [e1]; rfl
  refine nm_dup (q := 9) d_X11_init_8 rfl rfl ?_
  refine nm_callI (nc := 1) (ns := 4) (q := 12) (n := (n + 1)) (d' := 3) (mc' := 3) (ms' := 403) d_X11_init_9 rfl hl_X11_9 li_2 (Nat.le_of_ble_eq_true rfl) (Nat.le_of_ble_eq_true rfl) l1 rfl (Nat.succ_pos _) (Nat.le_of_ble_eq_true rfl) (Nat.le_of_ble_eq_true rfl) (cN_X2 l1 y1) (fun d2 e2 => ?_)
  have l2 : d2.length = (n + 4) := by rw [e2]; exact nl_X2 l1
  have t2 : d2[a]? = some (.inr (11, [.null, .null, .null, .null, .null, .null, .null, .null, .null, .null, .int 0, .null, .int 0, .null, .int 0, .int 0, .int 0, .int 0])) := by rw [e2]; exact np_X2 (nm_o2 0 han) (nm_o3 1 han) t1
  have E2 : d2 = nm_X11_2 dh a n := by rw [e2, E1]; rfl
  refine nm_putF (q := 15) (fs1 := [.ref n, .null, .null, .null, .null, .null, .null, .null, .null, .null, .int 0, .null, .int 0, .null, .int 0, .int 0, .int 0, .int 0]) d_X11_init_12 rfl ff_X11_10 t2 (Nat.le_of_ble_eq_true rfl) (fun _ => ⟨rfl, rfl⟩) rfl (fun d3 e3 => ?_)
  have l3 : d3.length = (n + 4) := nm_ls e3 l2
  have t3 : d3[a]? = some (.inr (11, [.ref n, .null, .null, .null, .null, .null, .null, .null, .null, .null, .int 0, .null, .int 0, .null, .int 0, .int 0, .int 0, .int 0])) := by rw [e3]; exact nm_l2 t2
  have E3 : d3 = nm_X11_3 dh a n := by rw [e3, E2]; rfl
  exact cN_X11_p1 han hp l3 t3 E3 hdy hA hC
