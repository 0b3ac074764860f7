theorem d_X12_init_0 : decode cX12_init 0 = .ok (.aload_n 0, 1) := by decide +kernel
theorem d_X12_init_1 : decode cX12_init 1 = .ok (.invokespecial 7, 3) := by decide +kernel
theorem ol_X12 : Cond.methodLink RX12 7 objectInit ∈ sm_TB := sm_w (List.mem_of_getElem? (i := 1181) (by decide +kernel)) rfl
theorem d_X12_init_4 : decode cX12_init 4 = .ok (.aload_n 0, 1) := by decide +kernel
theorem d_X12_init_5 : decode cX12_init 5 = .ok (.iconst 2, 1) := by decide +kernel
theorem d_X12_init_6 : decode cX12_init 6 = .ok (.putfield 13, 3) := by decide +kernel
theorem fp_X12_13 : sm_FW RX12 13 12 2 := ⟨_, rfl, by decide, sm_w (List.mem_of_getElem? (i := 1203) (by decide +kernel)) rfl, rfl⟩
theorem d_X12_init_9 : decode cX12_init 9 = .ok (.aload_n 0, 1) := by decide +kernel
theorem d_X12_init_10 : decode cX12_init 10 = .ok (.iconst 2, 1) := by decide +kernel
theorem d_X12_init_11 : decode cX12_init 11 = .ok (.putfield 16, 3) := by decide +kernel
theorem fp_X12_16 : sm_FW RX12 16 12 3 := ⟨_, rfl, by decide, sm_w (List.mem_of_getElem? (i := 1204) (by decide +kernel)) rfl, rfl⟩
theorem d_X12_init_14 : decode cX12_init 14 = .ok (.aload_n 0, 1) := by decide +kernel
theorem d_X12_init_15 : decode cX12_init 15 = .ok (.sipush 1000, 3) := by decide +kernel
theorem d_X12_init_18 : decode cX12_init 18 = .ok (.newarray .int, 2) := by decide +kernel
theorem d_X12_init_20 : decode cX12_init 20 = .ok (.putfield 19, 3) := by decide +kernel
theorem ff_X12_19 : nm_FF RX12 19 12 4 := ⟨_, rfl, by decide, sm_w (List.mem_of_getElem? (i := 1205) (by decide +kernel)) rfl, rfl, rfl⟩
theorem d_X12_init_23 : decode cX12_init 23 = .ok (.aload_n 0, 1) := by decide +kernel
theorem d_X12_init_24 : decode cX12_init 24 = .ok (.ldc 23, 2) := by decide +kernel
theorem cn_X12_23c : Cond.constant RX12 23 32768 ∈ sm_TB := sm_w (List.mem_of_getElem? (i := 1182) (by decide +kernel)) rfl
theorem d_X12_init_26 : decode cX12_init 26 = .ok (.newarray .int, 2) := by decide +kernel
theorem d_X12_init_28 : decode cX12_init 28 = .ok (.putfield 24, 3) := by decide +kernel
theorem ff_X12_24 : nm_FF RX12 24 12 6 := ⟨_, rfl, by decide, sm_w (List.mem_of_getElem? (i := 1207) (by decide +kernel)) rfl, rfl, rfl⟩
theorem d_X12_init_31 : decode cX12_init 31 = .ok (.aload_n 0, 1) := by decide +kernel
theorem d_X12_init_32 : decode cX12_init 32 = .ok (.sipush 4096, 3) := by decide +kernel
theorem d_X12_init_35 : decode cX12_init 35 = .ok (.newarray .int, 2) := by decide +kernel
theorem d_X12_init_37 : decode cX12_init 37 = .ok (.putfield 27, 3) := by decide +kernel
theorem ff_X12_27 : nm_FF RX12 27 12 8 := ⟨_, rfl, by decide, sm_w (List.mem_of_getElem? (i := 1209) (by decide +kernel)) rfl, rfl, rfl⟩
theorem d_X12_init_40 : decode cX12_init 40 = .ok (.aload_n 0, 1) := by decide +kernel
theorem d_X12_init_41 : decode cX12_init 41 = .ok (.sipush 200, 3) := by decide +kernel
theorem d_X12_init_44 : decode cX12_init 44 = .ok (.newarray .int, 2) := by decide +kernel
theorem d_X12_init_46 : decode cX12_init 46 = .ok (.putfield 30, 3) := by decide +kernel
theorem ff_X12_30 : nm_FF RX12 30 12 9 := ⟨_, rfl, by decide, sm_w (List.mem_of_getElem? (i := 1210) (by decide +kernel)) rfl, rfl, rfl⟩
theorem d_X12_init_49 : decode cX12_init 49 = .ok (.aload_n 0, 1) := by decide +kernel
theorem d_X12_init_50 : decode cX12_init 50 = .ok (.sipush 200, 3) := by decide +kernel
theorem d_X12_init_53 : decode cX12_init 53 = .ok (.newarray .int, 2) := by decide +kernel
theorem d_X12_init_55 : decode cX12_init 55 = .ok (.putfield 33, 3) := by decide +kernel
theorem ff_X12_33 : nm_FF RX12 33 12 10 := ⟨_, rfl, by decide, sm_w (List.mem_of_getElem? (i := 1211) (by decide +kernel)) rfl, rfl, rfl⟩
theorem d_X12_init_58 : decode cX12_init 58 = .ok (.aload_n 0, 1) := by decide +kernel
theorem d_X12_init_59 : decode cX12_init 59 = .ok (.sipush 240, 3) := by decide +kernel
theorem d_X12_init_62 : decode cX12_init 62 = .ok (.newarray .int, 2) := by decide +kernel
theorem d_X12_init_64 : decode cX12_init 64 = .ok (.putfield 36, 3) := by decide +kernel
theorem ff_X12_36 : nm_FF RX12 36 12 11 := ⟨_, rfl, by decide, sm_w (List.mem_of_getElem? (i := 1212) (by decide +kernel)) rfl, rfl, rfl⟩
theorem d_X12_init_67 : decode cX12_init 67 = .ok (.aload_n 0, 1) := by decide +kernel
theorem d_X12_init_68 : decode cX12_init 68 = .ok (.sipush 2880, 3) := by decide +kernel
theorem d_X12_init_71 : decode cX12_init 71 = .ok (.newarray .int, 2) := by decide +kernel
theorem d_X12_init_73 : decode cX12_init 73 = .ok (.putfield 39, 3) := by decide +kernel
theorem ff_X12_39 : nm_FF RX12 39 12 13 := ⟨_, rfl, by decide, sm_w (List.mem_of_getElem? (i := 1214) (by decide +kernel)) rfl, rfl, rfl⟩
theorem d_X12_init_76 : decode cX12_init 76 = .ok (.aload_n 0, 1) := by decide +kernel
theorem d_X12_init_77 : decode cX12_init 77 = .ok (.bipush 12, 2) := by decide +kernel
theorem d_X12_init_79 : decode cX12_init 79 = .ok (.newarray .int, 2) := by decide +kernel
theorem d_X12_init_81 : decode cX12_init 81 = .ok (.putfield 42, 3) := by decide +kernel
theorem ff_X12_42 : nm_FF RX12 42 12 14 := ⟨_, rfl, by decide, sm_w (List.mem_of_getElem? (i := 1215) (by decide +kernel)) rfl, rfl, rfl⟩
theorem d_X12_init_84 : decode cX12_init 84 = .ok (.aload_n 0, 1) := by decide +kernel
theorem d_X12_init_85 : decode cX12_init 85 = .ok (.sipush 240, 3) := by decide +kernel
theorem d_X12_init_88 : decode cX12_init 88 = .ok (.newarray .int, 2) := by decide +kernel
theorem d_X12_init_90 : decode cX12_init 90 = .ok (.putfield 45, 3) := by decide +kernel
theorem ff_X12_45 : nm_FF RX12 45 12 16 := ⟨_, rfl, by decide, sm_w (List.mem_of_getElem? (i := 1217) (by decide +kernel)) rfl, rfl, rfl⟩
theorem d_X12_init_93 : decode cX12_init 93 = .ok (.aload_n 0, 1) := by decide +kernel
theorem d_X12_init_94 : decode cX12_init 94 = .ok (.sipush 240, 3) := by decide +kernel
theorem d_X12_init_97 : decode cX12_init 97 = .ok (.newarray .char, 2) := by decide +kernel
theorem d_X12_init_99 : decode cX12_init 99 = .ok (.putfield 48, 3) := by decide +kernel
theorem ff_X12_48 : nm_FF RX12 48 12 17 := ⟨_, rfl, by decide, sm_w (List.mem_of_getElem? (i := 1218) (by decide +kernel)) rfl, rfl, rfl⟩
theorem d_X12_init_102 : decode cX12_init 102 = .ok (.aload_n 0, 1) := by decide +kernel
theorem d_X12_init_103 : decode cX12_init 103 = .ok (.sipush 240, 3) := by decide +kernel
theorem d_X12_init_106 : decode cX12_init 106 = .ok (.newarray .char, 2) := by decide +kernel
theorem d_X12_init_108 : decode cX12_init 108 = .ok (.putfield 52, 3) := by decide +kernel
theorem ff_X12_52 : nm_FF RX12 52 12 19 := ⟨_, rfl, by decide, sm_w (List.mem_of_getElem? (i := 1220) (by decide +kernel)) rfl, rfl, rfl⟩
theorem d_X12_init_111 : decode cX12_init 111 = .ok (.aload_n 0, 1) := by decide +kernel
theorem d_X12_init_112 : decode cX12_init 112 = .ok (.iconst 5, 1) := by decide +kernel
theorem d_X12_init_113 : decode cX12_init 113 = .ok (.newarray .int, 2) := by decide +kernel
theorem d_X12_init_115 : decode cX12_init 115 = .ok (.putfield 55, 3) := by decide +kernel
theorem ff_X12_55 : nm_FF RX12 55 12 21 := ⟨_, rfl, by decide, sm_w (List.mem_of_getElem? (i := 1222) (by decide +kernel)) rfl, rfl, rfl⟩
theorem d_X12_init_118 : decode cX12_init 118 = .ok (.aload_n 0, 1) := by decide +kernel
theorem d_X12_init_119 : decode cX12_init 119 = .ok (.sipush 200, 3) := by decide +kernel
theorem d_X12_init_122 : decode cX12_init 122 = .ok (.newarray .boolean, 2) := by decide +kernel
theorem d_X12_init_124 : decode cX12_init 124 = .ok (.putfield 58, 3) := by decide +kernel
theorem ff_X12_58 : nm_FF RX12 58 12 22 := ⟨_, rfl, by decide, sm_w (List.mem_of_getElem? (i := 1223) (by decide +kernel)) rfl, rfl, rfl⟩
theorem d_X12_init_127 : decode cX12_init 127 = .ok (.aload_n 0, 1) := by decide +kernel
theorem d_X12_init_128 : decode cX12_init 128 = .ok (.sipush 240, 3) := by decide +kernel
theorem d_X12_init_131 : decode cX12_init 131 = .ok (.newarray .int, 2) := by decide +kernel
theorem d_X12_init_133 : decode cX12_init 133 = .ok (.putfield 62, 3) := by decide +kernel
theorem ff_X12_62 : nm_FF RX12 62 12 23 := ⟨_, rfl, by decide, sm_w (List.mem_of_getElem? (i := 1224) (by decide +kernel)) rfl, rfl, rfl⟩
theorem d_X12_init_136 : decode cX12_init 136 = .ok (.aload_n 0, 1) := by decide +kernel
theorem d_X12_init_137 : decode cX12_init 137 = .ok (.sipush 200, 3) := by decide +kernel
theorem d_X12_init_140 : decode cX12_init 140 = .ok (.newarray .int, 2) := by decide +kernel
theorem d_X12_init_142 : decode cX12_init 142 = .ok (.putfield 65, 3) := by decide +kernel
theorem ff_X12_65 : nm_FF RX12 65 12 24 := ⟨_, rfl, by decide, sm_w (List.mem_of_getElem? (i := 1225) (by decide +kernel)) rfl, rfl, rfl⟩
theorem d_X12_init_145 : decode cX12_init 145 = .ok (.aload_n 0, 1) := by decide +kernel
theorem d_X12_init_146 : decode cX12_init 146 = .ok (.sipush 200, 3) := by decide +kernel
theorem d_X12_init_149 : decode cX12_init 149 = .ok (.newarray .boolean, 2) := by decide +kernel
theorem d_X12_init_151 : decode cX12_init 151 = .ok (.putfield 68, 3) := by decide +kernel
theorem ff_X12_68 : nm_FF RX12 68 12 25 := ⟨_, rfl, by decide, sm_w (List.mem_of_getElem? (i := 1226) (by decide +kernel)) rfl, rfl, rfl⟩
theorem d_X12_init_154 : decode cX12_init 154 = .ok (.aload_n 0, 1) := by decide +kernel
theorem d_X12_init_155 : decode cX12_init 155 = .ok (.sipush 201, 3) := by decide +kernel
theorem d_X12_init_158 : decode cX12_init 158 = .ok (.newarray .int, 2) := by decide +kernel
theorem d_X12_init_160 : decode cX12_init 160 = .ok (.putfield 71, 3) := by decide +kernel
theorem ff_X12_71 : nm_FF RX12 71 12 26 := ⟨_, rfl, by decide, sm_w (List.mem_of_getElem? (i := 1227) (by decide +kernel)) rfl, rfl, rfl⟩
theorem d_X12_init_163 : decode cX12_init 163 = .ok (.aload_n 0, 1) := by decide +kernel
theorem d_X12_init_164 : decode cX12_init 164 = .ok (.sipush 201, 3) := by decide +kernel
theorem d_X12_init_167 : decode cX12_init 167 = .ok (.newarray .int, 2) := by decide +kernel
theorem d_X12_init_169 : decode cX12_init 169 = .ok (.putfield 74, 3) := by decide +kernel
theorem ff_X12_74 : nm_FF RX12 74 12 27 := ⟨_, rfl, by decide, sm_w (List.mem_of_getElem? (i := 1228) (by decide +kernel)) rfl, rfl, rfl⟩
theorem d_X12_init_172 : decode cX12_init 172 = .ok (.aload_n 0, 1) := by decide +kernel
theorem d_X12_init_173 : decode cX12_init 173 = .ok (.sipush 200, 3) := by decide +kernel
theorem d_X12_init_176 : decode cX12_init 176 = .ok (.newarray .int, 2) := by decide +kernel
theorem d_X12_init_178 : decode cX12_init 178 = .ok (.putfield 77, 3) := by decide +kernel
theorem ff_X12_77 : nm_FF RX12 77 12 28 := ⟨_, rfl, by decide, sm_w (List.mem_of_getElem? (i := 1229) (by decide +kernel)) rfl, rfl, rfl⟩
theorem d_X12_init_181 : decode cX12_init 181 = .ok (.aload_n 0, 1) := by decide +kernel
theorem d_X12_init_182 : decode cX12_init 182 = .ok (.bipush 64, 2) := by decide +kernel
theorem d_X12_init_184 : decode cX12_init 184 = .ok (.newarray .long, 2) := by decide +kernel
theorem d_X12_init_186 : decode cX12_init 186 = .ok (.putfield 80, 3) := by decide +kernel
theorem ff_X12_80 : nm_FF RX12 80 12 29 := ⟨_, rfl, by decide, sm_w (List.mem_of_getElem? (i := 1230) (by decide +kernel)) rfl, rfl, rfl⟩
theorem d_X12_init_189 : decode cX12_init 189 = .ok (.aload_n 0, 1) := by decide +kernel
theorem d_X12_init_190 : decode cX12_init 190 = .ok (.sipush 240, 3) := by decide +kernel
theorem d_X12_init_193 : decode cX12_init 193 = .ok (.newarray .int, 2) := by decide +kernel
theorem d_X12_init_195 : decode cX12_init 195 = .ok (.putfield 84, 3) := by decide +kernel
theorem ff_X12_84 : nm_FF RX12 84 12 35 := ⟨_, rfl, by decide, sm_w (List.mem_of_getElem? (i := 1236) (by decide +kernel)) rfl, rfl, rfl⟩
theorem d_X12_init_198 : decode cX12_init 198 = .ok (.aload_n 0, 1) := by decide +kernel
theorem d_X12_init_199 : decode cX12_init 199 = .ok (.invokevirtual 87, 3) := by decide +kernel
theorem lkc_X12_87 : sm_LV RX12 87 yX12_fill md_X12_fill 0 := ⟨sm_w (List.mem_of_getElem? (i := 1183) (by decide +kernel)) rfl, sm_w (List.mem_of_getElem? (i := 1185) (by decide +kernel)) rfl, sm_w (List.mem_of_getElem? (i := 29) (by decide +kernel)) rfl, sm_w (List.mem_of_getElem? (i := 75) (by decide +kernel)) rfl, sm_w (List.mem_of_getElem? (i := 1186) (by decide +kernel)) rfl, by decide, by decide +kernel⟩
theorem d_X12_init_202 : decode cX12_init 202 = .ok (.return_, 1) := by decide +kernel
def nm_X12_1 (dh : List nm_E) (a n : Nat) : List nm_E := dh.set a (.inr (12, [.int 0, .int 0, .int (2 : Int32), .int 0, .null, .int 0, .null, .int 0, .null, .null, .null, .null, .int 0, .null, .null, .int 0, .null, .null, .int 0, .null, .int 0, .null, .null, .null, .null, .null, .null, .null, .null, .null, .int 0, .int 0, .int 0, .int 0, .int 0, .null]) : nm_E)
theorem nl_X12_1 {dh : List nm_E} {a n : Nat} (h : dh.length = n) : (nm_X12_1 dh a n).length = n + 0 := by unfold nm_X12_1; rw [List.length_set]; exact h
theorem np_X12_1 {dh : List nm_E} {a n b : Nat} {e : nm_E} (hne : b ≠ a) (hb : b < n) (h : dh[b]? = some e) : (nm_X12_1 dh a n)[b]? = some e := nm_l4 (by omega) h
def nm_X12_2 (dh : List nm_E) (a n : Nat) : List nm_E := (nm_X12_1 dh a n).set a (.inr (12, [.int 0, .int 0, .int (2 : Int32), .int (2 : Int32), .null, .int 0, .null, .int 0, .null, .null, .null, .null, .int 0, .null, .null, .int 0, .null, .null, .int 0, .null, .int 0, .null, .null, .null, .null, .null, .null, .null, .null, .null, .int 0, .int 0, .int 0, .int 0, .int 0, .null]) : nm_E)
theorem nl_X12_2 {dh : List nm_E} {a n : Nat} (h : dh.length = n) : (nm_X12_2 dh a n).length = n + 0 := by unfold nm_X12_2; rw [List.length_set]; exact nl_X12_1 h
theorem np_X12_2 {dh : List nm_E} {a n b : Nat} {e : nm_E} (hne : b ≠ a) (hb : b < n) (h : dh[b]? = some e) : (nm_X12_2 dh a n)[b]? = some e := nm_l4 (by omega) (np_X12_1 hne hb h)
def nm_X12_3 (dh : List nm_E) (a n : Nat) : List nm_E := (nm_X12_2 dh a n) ++ ([.inl (0, 1000, fun _ => 0, fun _ => 0, [])] : List nm_E)
theorem nl_X12_3 {dh : List nm_E} {a n : Nat} (h : dh.length = n) : (nm_X12_3 dh a n).length = n + 1 := by unfold nm_X12_3; rw [List.length_append, nl_X12_2 h]; rfl
theorem np_X12_3 {dh : List nm_E} {a n b : Nat} {e : nm_E} (hne : b ≠ a) (hb : b < n) (h : dh[b]? = some e) : (nm_X12_3 dh a n)[b]? = some e := nm_l5 (np_X12_2 hne hb h)
def nm_X12_4 (dh : List nm_E) (a n : Nat) : List nm_E := (nm_X12_3 dh a n).set a (.inr (12, [.int 0, .int 0, .int (2 : Int32), .int (2 : Int32), .ref n, .int 0, .null, .int 0, .null, .null, .null, .null, .int 0, .null, .null, .int 0, .null, .null, .int 0, .null, .int 0, .null, .null, .null, .null, .null, .null, .null, .null, .null, .int 0, .int 0, .int 0, .int 0, .int 0, .null]) : nm_E)
theorem nl_X12_4 {dh : List nm_E} {a n : Nat} (h : dh.length = n) : (nm_X12_4 dh a n).length = n + 1 := by unfold nm_X12_4; rw [List.length_set]; exact nl_X12_3 h
theorem np_X12_4 {dh : List nm_E} {a n b : Nat} {e : nm_E} (hne : b ≠ a) (hb : b < n) (h : dh[b]? = some e) : (nm_X12_4 dh a n)[b]? = some e := nm_l4 (by omega) (np_X12_3 hne hb h)
def nm_X12_5 (dh : List nm_E) (a n : Nat) : List nm_E := (nm_X12_4 dh a n) ++ ([.inl (0, 32768, fun _ => 0, fun _ => 0, [])] : List nm_E)
theorem nl_X12_5 {dh : List nm_E} {a n : Nat} (h : dh.length = n) : (nm_X12_5 dh a n).length = n + 2 := by unfold nm_X12_5; rw [List.length_append, nl_X12_4 h]; rfl
theorem np_X12_5 {dh : List nm_E} {a n b : Nat} {e : nm_E} (hne : b ≠ a) (hb : b < n) (h : dh[b]? = some e) : (nm_X12_5 dh a n)[b]? = some e := nm_l5 (np_X12_4 hne hb h)
def nm_X12_6 (dh : List nm_E) (a n : Nat) : List nm_E := (nm_X12_5 dh a n).set a (.inr (12, [.int 0, .int 0, .int (2 : Int32), .int (2 : Int32), .ref n, .int 0, .ref (n + 1), .int 0, .null, .null, .null, .null, .int 0, .null, .null, .int 0, .null, .null, .int 0, .null, .int 0, .null, .null, .null, .null, .null, .null, .null, .null, .null, .int 0, .int 0, .int 0, .int 0, .int 0, .null]) : nm_E)
theorem nl_X12_6 {dh : List nm_E} {a n : Nat} (h : dh.length = n) : (nm_X12_6 dh a n).length = n + 2 := by unfold nm_X12_6; rw [List.length_set]; exact nl_X12_5 h
theorem np_X12_6 {dh : List nm_E} {a n b : Nat} {e : nm_E} (hne : b ≠ a) (hb : b < n) (h : dh[b]? = some e) : (nm_X12_6 dh a n)[b]? = some e := nm_l4 (by omega) (np_X12_5 hne hb h)
def nm_X12_7 (dh : List nm_E) (a n : Nat) : List nm_E := (nm_X12_6 dh a n) ++ ([.inl (0, 4096, fun _ => 0, fun _ => 0, [])] : List nm_E)
theorem nl_X12_7 {dh : List nm_E} {a n : Nat} (h : dh.length = n) : (nm_X12_7 dh a n).length = n + 3 := by unfold nm_X12_7; rw [List.length_append, nl_X12_6 h]; rfl
theorem np_X12_7 {dh : List nm_E} {a n b : Nat} {e : nm_E} (hne : b ≠ a) (hb : b < n) (h : dh[b]? = some e) : (nm_X12_7 dh a n)[b]? = some e := nm_l5 (np_X12_6 hne hb h)
def nm_X12_8 (dh : List nm_E) (a n : Nat) : List nm_E := (nm_X12_7 dh a n).set a (.inr (12, [.int 0, .int 0, .int (2 : Int32), .int (2 : Int32), .ref n, .int 0, .ref (n + 1), .int 0, .ref (n + 2), .null, .null, .null, .int 0, .null, .null, .int 0, .null, .null, .int 0, .null, .int 0, .null, .null, .null, .null, .null, .null, .null, .null, .null, .int 0, .int 0, .int 0, .int 0, .int 0, .null]) : nm_E)
theorem nl_X12_8 {dh : List nm_E} {a n : Nat} (h : dh.length = n) : (nm_X12_8 dh a n).length = n + 3 := by unfold nm_X12_8; rw [List.length_set]; exact nl_X12_7 h
theorem np_X12_8 {dh : List nm_E} {a n b : Nat} {e : nm_E} (hne : b ≠ a) (hb : b < n) (h : dh[b]? = some e) : (nm_X12_8 dh a n)[b]? = some e := nm_l4 (by omega) (np_X12_7 hne hb h)
def nm_X12_9 (dh : List nm_E) (a n : Nat) : List nm_E := (nm_X12_8 dh a n) ++ ([.inl (0, 200, fun _ => 0, fun _ => 0, [])] : List nm_E)
theorem nl_X12_9 {dh : List nm_E} {a n : Nat} (h : dh.length = n) : (nm_X12_9 dh a n).length = n + 4 := by unfold nm_X12_9; rw [List.length_append, nl_X12_8 h]; rfl
theorem np_X12_9 {dh : List nm_E} {a n b : Nat} {e : nm_E} (hne : b ≠ a) (hb : b < n) (h : dh[b]? = some e) : (nm_X12_9 dh a n)[b]? = some e := nm_l5 (np_X12_8 hne hb h)
def nm_X12_10 (dh : List nm_E) (a n : Nat) : List nm_E := (nm_X12_9 dh a n).set a (.inr (12, [.int 0, .int 0, .int (2 : Int32), .int (2 : Int32), .ref n, .int 0, .ref (n + 1), .int 0, .ref (n + 2), .ref (n + 3), .null, .null, .int 0, .null, .null, .int 0, .null, .null, .int 0, .null, .int 0, .null, .null, .null, .null, .null, .null, .null, .null, .null, .int 0, .int 0, .int 0, .int 0, .int 0, .null]) : nm_E)
theorem nl_X12_10 {dh : List nm_E} {a n : Nat} (h : dh.length = n) : (nm_X12_10 dh a n).length = n + 4 := by unfold nm_X12_10; rw [List.length_set]; exact nl_X12_9 h
theorem np_X12_10 {dh : List nm_E} {a n b : Nat} {e : nm_E} (hne : b ≠ a) (hb : b < n) (h : dh[b]? = some e) : (nm_X12_10 dh a n)[b]? = some e := nm_l4 (by omega) (np_X12_9 hne hb h)
def nm_X12_11 (dh : List nm_E) (a n : Nat) : List nm_E := (nm_X12_10 dh a n) ++ ([.inl (0, 200, fun _ => 0, fun _ => 0, [])] : List nm_E)
theorem nl_X12_11 {dh : List nm_E} {a n : Nat} (h : dh.length = n) : (nm_X12_11 dh a n).length = n + 5 := by unfold nm_X12_11; rw [List.length_append, nl_X12_10 h]; rfl
theorem np_X12_11 {dh : List nm_E} {a n b : Nat} {e : nm_E} (hne : b ≠ a) (hb : b < n) (h : dh[b]? = some e) : (nm_X12_11 dh a n)[b]? = some e := nm_l5 (np_X12_10 hne hb h)
def nm_X12_12 (dh : List nm_E) (a n : Nat) : List nm_E := (nm_X12_11 dh a n).set a (.inr (12, [.int 0, .int 0, .int (2 : Int32), .int (2 : Int32), .ref n, .int 0, .ref (n + 1), .int 0, .ref (n + 2), .ref (n + 3), .ref (n + 4), .null, .int 0, .null, .null, .int 0, .null, .null, .int 0, .null, .int 0, .null, .null, .null, .null, .null, .null, .null, .null, .null, .int 0, .int 0, .int 0, .int 0, .int 0, .null]) : nm_E)
theorem nl_X12_12 {dh : List nm_E} {a n : Nat} (h : dh.length = n) : (nm_X12_12 dh a n).length = n + 5 := by unfold nm_X12_12; rw [List.length_set]; exact nl_X12_11 h
theorem np_X12_12 {dh : List nm_E} {a n b : Nat} {e : nm_E} (hne : b ≠ a) (hb : b < n) (h : dh[b]? = some e) : (nm_X12_12 dh a n)[b]? = some e := nm_l4 (by omega) (np_X12_11 hne hb h)
def nm_X12_13 (dh : List nm_E) (a n : Nat) : List nm_E := (nm_X12_12 dh a n) ++ ([.inl (0, 240, fun _ => 0, fun _ => 0, [])] : List nm_E)
theorem nl_X12_13 {dh : List nm_E} {a n : Nat} (h : dh.length = n) : (nm_X12_13 dh a n).length = n + 6 := by unfold nm_X12_13; rw [List.length_append, nl_X12_12 h]; rfl
theorem np_X12_13 {dh : List nm_E} {a n b : Nat} {e : nm_E} (hne : b ≠ a) (hb : b < n) (h : dh[b]? = some e) : (nm_X12_13 dh a n)[b]? = some e := nm_l5 (np_X12_12 hne hb h)
def nm_X12_14 (dh : List nm_E) (a n : Nat) : List nm_E := (nm_X12_13 dh a n).set a (.inr (12, [.int 0, .int 0, .int (2 : Int32), .int (2 : Int32), .ref n, .int 0, .ref (n + 1), .int 0, .ref (n + 2), .ref (n + 3), .ref (n + 4), .ref (n + 5), .int 0, .null, .null, .int 0, .null, .null, .int 0, .null, .int 0, .null, .null, .null, .null, .null, .null, .null, .null, .null, .int 0, .int 0, .int 0, .int 0, .int 0, .null]) : nm_E)
theorem nl_X12_14 {dh : List nm_E} {a n : Nat} (h : dh.length = n) : (nm_X12_14 dh a n).length = n + 6 := by unfold nm_X12_14; rw [List.length_set]; exact nl_X12_13 h
theorem np_X12_14 {dh : List nm_E} {a n b : Nat} {e : nm_E} (hne : b ≠ a) (hb : b < n) (h : dh[b]? = some e) : (nm_X12_14 dh a n)[b]? = some e := nm_l4 (by omega) (np_X12_13 hne hb h)
def nm_X12_15 (dh : List nm_E) (a n : Nat) : List nm_E := (nm_X12_14 dh a n) ++ ([.inl (0, 2880, fun _ => 0, fun _ => 0, [])] : List nm_E)
theorem nl_X12_15 {dh : List nm_E} {a n : Nat} (h : dh.length = n) : (nm_X12_15 dh a n).length = n + 7 := by unfold nm_X12_15; rw [List.length_append, nl_X12_14 h]; rfl
theorem np_X12_15 {dh : List nm_E} {a n b : Nat} {e : nm_E} (hne : b ≠ a) (hb : b < n) (h : dh[b]? = some e) : (nm_X12_15 dh a n)[b]? = some e := nm_l5 (np_X12_14 hne hb h)
def nm_X12_16 (dh : List nm_E) (a n : Nat) : List nm_E := (nm_X12_15 dh a n).set a (.inr (12, [.int 0, .int 0, .int (2 : Int32), .int (2 : Int32), .ref n, .int 0, .ref (n + 1), .int 0, .ref (n + 2), .ref (n + 3), .ref (n + 4), .ref (n + 5), .int 0, .ref (n + 6), .null, .int 0, .null, .null, .int 0, .null, .int 0, .null, .null, .null, .null, .null, .null, .null, .null, .null, .int 0, .int 0, .int 0, .int 0, .int 0, .null]) : nm_E)
theorem nl_X12_16 {dh : List nm_E} {a n : Nat} (h : dh.length = n) : (nm_X12_16 dh a n).length = n + 7 := by unfold nm_X12_16; rw [List.length_set]; exact nl_X12_15 h
theorem np_X12_16 {dh : List nm_E} {a n b : Nat} {e : nm_E} (hne : b ≠ a) (hb : b < n) (h : dh[b]? = some e) : (nm_X12_16 dh a n)[b]? = some e := nm_l4 (by omega) (np_X12_15 hne hb h)
def nm_X12_17 (dh : List nm_E) (a n : Nat) : List nm_E := (nm_X12_16 dh a n) ++ ([.inl (0, 12, fun _ => 0, fun _ => 0, [])] : List nm_E)
theorem nl_X12_17 {dh : List nm_E} {a n : Nat} (h : dh.length = n) : (nm_X12_17 dh a n).length = n + 8 := by unfold nm_X12_17; rw [List.length_append, nl_X12_16 h]; rfl
theorem np_X12_17 {dh : List nm_E} {a n b : Nat} {e : nm_E} (hne : b ≠ a) (hb : b < n) (h : dh[b]? = some e) : (nm_X12_17 dh a n)[b]? = some e := nm_l5 (np_X12_16 hne hb h)
def nm_X12_18 (dh : List nm_E) (a n : Nat) : List nm_E := (nm_X12_17 dh a n).set a (.inr (12, [.int 0, .int 0, .int (2 : Int32), .int (2 : Int32), .ref n, .int 0, .ref (n + 1), .int 0, .ref (n + 2), .ref (n + 3), .ref (n + 4), .ref (n + 5), .int 0, .ref (n + 6), .ref (n + 7), .int 0, .null, .null, .int 0, .null, .int 0, .null, .null, .null, .null, .null, .null, .null, .null, .null, .int 0, .int 0, .int 0, .int 0, .int 0, .null]) : nm_E)
theorem nl_X12_18 {dh : List nm_E} {a n : Nat} (h : dh.length = n) : (nm_X12_18 dh a n).length = n + 8 := by unfold nm_X12_18; rw [List.length_set]; exact nl_X12_17 h
theorem np_X12_18 {dh : List nm_E} {a n b : Nat} {e : nm_E} (hne : b ≠ a) (hb : b < n) (h : dh[b]? = some e) : (nm_X12_18 dh a n)[b]? = some e := nm_l4 (by omega) (np_X12_17 hne hb h)
def nm_X12_19 (dh : List nm_E) (a n : Nat) : List nm_E := (nm_X12_18 dh a n) ++ ([.inl (0, 240, fun _ => 0, fun _ => 0, [])] : List nm_E)
theorem nl_X12_19 {dh : List nm_E} {a n : Nat} (h : dh.length = n) : (nm_X12_19 dh a n).length = n + 9 := by unfold nm_X12_19; rw [List.length_append, nl_X12_18 h]; rfl
theorem np_X12_19 {dh : List nm_E} {a n b : Nat} {e : nm_E} (hne : b ≠ a) (hb : b < n) (h : dh[b]? = some e) : (nm_X12_19 dh a n)[b]? = some e := nm_l5 (np_X12_18 hne hb h)
def nm_X12_20 (dh : List nm_E) (a n : Nat) : List nm_E := (nm_X12_19 dh a n).set a (.inr (12, [.int 0, .int 0, .int (2 : Int32), .int (2 : Int32), .ref n, .int 0, .ref (n + 1), .int 0, .ref (n + 2), .ref (n + 3), .ref (n + 4), .ref (n + 5), .int 0, .ref (n + 6), .ref (n + 7), .int 0, .ref (n + 8), .null, .int 0, .null, .int 0, .null, .null, .null, .null, .null, .null, .null, .null, .null, .int 0, .int 0, .int 0, .int 0, .int 0, .null]) : nm_E)
theorem nl_X12_20 {dh : List nm_E} {a n : Nat} (h : dh.length = n) : (nm_X12_20 dh a n).length = n + 9 := by unfold nm_X12_20; rw [List.length_set]; exact nl_X12_19 h
theorem np_X12_20 {dh : List nm_E} {a n b : Nat} {e : nm_E} (hne : b ≠ a) (hb : b < n) (h : dh[b]? = some e) : (nm_X12_20 dh a n)[b]? = some e := nm_l4 (by omega) (np_X12_19 hne hb h)
def nm_X12_21 (dh : List nm_E) (a n : Nat) : List nm_E := (nm_X12_20 dh a n) ++ ([.inl (1, 240, fun _ => 0, fun _ => 0, [])] : List nm_E)
theorem nl_X12_21 {dh : List nm_E} {a n : Nat} (h : dh.length = n) : (nm_X12_21 dh a n).length = n + 10 := by unfold nm_X12_21; rw [List.length_append, nl_X12_20 h]; rfl
theorem np_X12_21 {dh : List nm_E} {a n b : Nat} {e : nm_E} (hne : b ≠ a) (hb : b < n) (h : dh[b]? = some e) : (nm_X12_21 dh a n)[b]? = some e := nm_l5 (np_X12_20 hne hb h)
def nm_X12_22 (dh : List nm_E) (a n : Nat) : List nm_E := (nm_X12_21 dh a n).set a (.inr (12, [.int 0, .int 0, .int (2 : Int32), .int (2 : Int32), .ref n, .int 0, .ref (n + 1), .int 0, .ref (n + 2), .ref (n + 3), .ref (n + 4), .ref (n + 5), .int 0, .ref (n + 6), .ref (n + 7), .int 0, .ref (n + 8), .ref (n + 9), .int 0, .null, .int 0, .null, .null, .null, .null, .null, .null, .null, .null, .null, .int 0, .int 0, .int 0, .int 0, .int 0, .null]) : nm_E)
theorem nl_X12_22 {dh : List nm_E} {a n : Nat} (h : dh.length = n) : (nm_X12_22 dh a n).length = n + 10 := by unfold nm_X12_22; rw [List.length_set]; exact nl_X12_21 h
theorem np_X12_22 {dh : List nm_E} {a n b : Nat} {e : nm_E} (hne : b ≠ a) (hb : b < n) (h : dh[b]? = some e) : (nm_X12_22 dh a n)[b]? = some e := nm_l4 (by omega) (np_X12_21 hne hb h)
def nm_X12_23 (dh : List nm_E) (a n : Nat) : List nm_E := (nm_X12_22 dh a n) ++ ([.inl (1, 240, fun _ => 0, fun _ => 0, [])] : List nm_E)
theorem nl_X12_23 {dh : List nm_E} {a n : Nat} (h : dh.length = n) : (nm_X12_23 dh a n).length = n + 11 := by unfold nm_X12_23; rw [List.length_append, nl_X12_22 h]; rfl
theorem np_X12_23 {dh : List nm_E} {a n b : Nat} {e : nm_E} (hne : b ≠ a) (hb : b < n) (h : dh[b]? = some e) : (nm_X12_23 dh a n)[b]? = some e := nm_l5 (np_X12_22 hne hb h)
def nm_X12_24 (dh : List nm_E) (a n : Nat) : List nm_E := (nm_X12_23 dh a n).set a (.inr (12, [.int 0, .int 0, .int (2 : Int32), .int (2 : Int32), .ref n, .int 0, .ref (n + 1), .int 0, .ref (n + 2), .ref (n + 3), .ref (n + 4), .ref (n + 5), .int 0, .ref (n + 6), .ref (n + 7), .int 0, .ref (n + 8), .ref (n + 9), .int 0, .ref (n + 10), .int 0, .null, .null, .null, .null, .null, .null, .null, .null, .null, .int 0, .int 0, .int 0, .int 0, .int 0, .null]) : nm_E)
theorem nl_X12_24 {dh : List nm_E} {a n : Nat} (h : dh.length = n) : (nm_X12_24 dh a n).length = n + 11 := by unfold nm_X12_24; rw [List.length_set]; exact nl_X12_23 h
theorem np_X12_24 {dh : List nm_E} {a n b : Nat} {e : nm_E} (hne : b ≠ a) (hb : b < n) (h : dh[b]? = some e) : (nm_X12_24 dh a n)[b]? = some e := nm_l4 (by omega) (np_X12_23 hne hb h)
def nm_X12_25 (dh : List nm_E) (a n : Nat) : List nm_E := (nm_X12_24 dh a n) ++ ([.inl (0, 5, fun _ => 0, fun _ => 0, [])] : List nm_E)
theorem nl_X12_25 {dh : List nm_E} {a n : Nat} (h : dh.length = n) : (nm_X12_25 dh a n).length = n + 12 := by unfold nm_X12_25; rw [List.length_append, nl_X12_24 h]; rfl
theorem np_X12_25 {dh : List nm_E} {a n b : Nat} {e : nm_E} (hne : b ≠ a) (hb : b < n) (h : dh[b]? = some e) : (nm_X12_25 dh a n)[b]? = some e := nm_l5 (np_X12_24 hne hb h)
def nm_X12_26 (dh : List nm_E) (a n : Nat) : List nm_E := (nm_X12_25 dh a n).set a (.inr (12, [.int 0, .int 0, .int (2 : Int32), .int (2 : Int32), .ref n, .int 0, .ref (n + 1), .int 0, .ref (n + 2), .ref (n + 3), .ref (n + 4), .ref (n + 5), .int 0, .ref (n + 6), .ref (n + 7), .int 0, .ref (n + 8), .ref (n + 9), .int 0, .ref (n + 10), .int 0, .ref (n + 11), .null, .null, .null, .null, .null, .null, .null, .null, .int 0, .int 0, .int 0, .int 0, .int 0, .null]) : nm_E)
theorem nl_X12_26 {dh : List nm_E} {a n : Nat} (h : dh.length = n) : (nm_X12_26 dh a n).length = n + 12 := by unfold nm_X12_26; rw [List.length_set]; exact nl_X12_25 h
theorem np_X12_26 {dh : List nm_E} {a n b : Nat} {e : nm_E} (hne : b ≠ a) (hb : b < n) (h : dh[b]? = some e) : (nm_X12_26 dh a n)[b]? = some e := nm_l4 (by omega) (np_X12_25 hne hb h)
def nm_X12_27 (dh : List nm_E) (a n : Nat) : List nm_E := (nm_X12_26 dh a n) ++ ([.inl (2, 200, fun _ => 0, fun _ => 0, [])] : List nm_E)
theorem nl_X12_27 {dh : List nm_E} {a n : Nat} (h : dh.length = n) : (nm_X12_27 dh a n).length = n + 13 := by unfold nm_X12_27; rw [List.length_append, nl_X12_26 h]; rfl
theorem np_X12_27 {dh : List nm_E} {a n b : Nat} {e : nm_E} (hne : b ≠ a) (hb : b < n) (h : dh[b]? = some e) : (nm_X12_27 dh a n)[b]? = some e := nm_l5 (np_X12_26 hne hb h)
def nm_X12_28 (dh : List nm_E) (a n : Nat) : List nm_E := (nm_X12_27 dh a n).set a (.inr (12, [.int 0, .int 0, .int (2 : Int32), .int (2 : Int32), .ref n, .int 0, .ref (n + 1), .int 0, .ref (n + 2), .ref (n + 3), .ref (n + 4), .ref (n + 5), .int 0, .ref (n + 6), .ref (n + 7), .int 0, .ref (n + 8), .ref (n + 9), .int 0, .ref (n + 10), .int 0, .ref (n + 11), .ref (n + 12), .null, .null, .null, .null, .null, .null, .null, .int 0, .int 0, .int 0, .int 0, .int 0, .null]) : nm_E)
theorem nl_X12_28 {dh : List nm_E} {a n : Nat} (h : dh.length = n) : (nm_X12_28 dh a n).length = n + 13 := by unfold nm_X12_28; rw [List.length_set]; exact nl_X12_27 h
theorem np_X12_28 {dh : List nm_E} {a n b : Nat} {e : nm_E} (hne : b ≠ a) (hb : b < n) (h : dh[b]? = some e) : (nm_X12_28 dh a n)[b]? = some e := nm_l4 (by omega) (np_X12_27 hne hb h)
def nm_X12_29 (dh : List nm_E) (a n : Nat) : List nm_E := (nm_X12_28 dh a n) ++ ([.inl (0, 240, fun _ => 0, fun _ => 0, [])] : List nm_E)
theorem nl_X12_29 {dh : List nm_E} {a n : Nat} (h : dh.length = n) : (nm_X12_29 dh a n).length = n + 14 := by unfold nm_X12_29; rw [List.length_append, nl_X12_28 h]; rfl
theorem np_X12_29 {dh : List nm_E} {a n b : Nat} {e : nm_E} (hne : b ≠ a) (hb : b < n) (h : dh[b]? = some e) : (nm_X12_29 dh a n)[b]? = some e := nm_l5 (np_X12_28 hne hb h)
def nm_X12_30 (dh : List nm_E) (a n : Nat) : List nm_E := (nm_X12_29 dh a n).set a (.inr (12, [.int 0, .int 0, .int (2 : Int32), .int (2 : Int32), .ref n, .int 0, .ref (n + 1), .int 0, .ref (n + 2), .ref (n + 3), .ref (n + 4), .ref (n + 5), .int 0, .ref (n + 6), .ref (n + 7), .int 0, .ref (n + 8), .ref (n + 9), .int 0, .ref (n + 10), .int 0, .ref (n + 11), .ref (n + 12), .ref (n + 13), .null, .null, .null, .null, .null, .null, .int 0, .int 0, .int 0, .int 0, .int 0, .null]) : nm_E)
theorem nl_X12_30 {dh : List nm_E} {a n : Nat} (h : dh.length = n) : (nm_X12_30 dh a n).length = n + 14 := by unfold nm_X12_30; rw [List.length_set]; exact nl_X12_29 h
theorem np_X12_30 {dh : List nm_E} {a n b : Nat} {e : nm_E} (hne : b ≠ a) (hb : b < n) (h : dh[b]? = some e) : (nm_X12_30 dh a n)[b]? = some e := nm_l4 (by omega) (np_X12_29 hne hb h)
def nm_X12_31 (dh : List nm_E) (a n : Nat) : List nm_E := (nm_X12_30 dh a n) ++ ([.inl (0, 200, fun _ => 0, fun _ => 0, [])] : List nm_E)
theorem nl_X12_31 {dh : List nm_E} {a n : Nat} (h : dh.length = n) : (nm_X12_31 dh a n).length = n + 15 := by unfold nm_X12_31; rw [List.length_append, nl_X12_30 h]; rfl
theorem np_X12_31 {dh : List nm_E} {a n b : Nat} {e : nm_E} (hne : b ≠ a) (hb : b < n) (h : dh[b]? = some e) : (nm_X12_31 dh a n)[b]? = some e := nm_l5 (np_X12_30 hne hb h)
def nm_X12_32 (dh : List nm_E) (a n : Nat) : List nm_E := (nm_X12_31 dh a n).set a (.inr (12, [.int 0, .int 0, .int (2 : Int32), .int (2 : Int32), .ref n, .int 0, .ref (n + 1), .int 0, .ref (n + 2), .ref (n + 3), .ref (n + 4), .ref (n + 5), .int 0, .ref (n + 6), .ref (n + 7), .int 0, .ref (n + 8), .ref (n + 9), .int 0, .ref (n + 10), .int 0, .ref (n + 11), .ref (n + 12), .ref (n + 13), .ref (n + 14), .null, .null, .null, .null, .null, .int 0, .int 0, .int 0, .int 0, .int 0, .null]) : nm_E)
theorem nl_X12_32 {dh : List nm_E} {a n : Nat} (h : dh.length = n) : (nm_X12_32 dh a n).length = n + 15 := by unfold nm_X12_32; rw [List.length_set]; exact nl_X12_31 h
theorem np_X12_32 {dh : List nm_E} {a n b : Nat} {e : nm_E} (hne : b ≠ a) (hb : b < n) (h : dh[b]? = some e) : (nm_X12_32 dh a n)[b]? = some e := nm_l4 (by omega) (np_X12_31 hne hb h)
def nm_X12_33 (dh : List nm_E) (a n : Nat) : List nm_E := (nm_X12_32 dh a n) ++ ([.inl (2, 200, fun _ => 0, fun _ => 0, [])] : List nm_E)
theorem nl_X12_33 {dh : List nm_E} {a n : Nat} (h : dh.length = n) : (nm_X12_33 dh a n).length = n + 16 := by unfold nm_X12_33; rw [List.length_append, nl_X12_32 h]; rfl
theorem np_X12_33 {dh : List nm_E} {a n b : Nat} {e : nm_E} (hne : b ≠ a) (hb : b < n) (h : dh[b]? = some e) : (nm_X12_33 dh a n)[b]? = some e := nm_l5 (np_X12_32 hne hb h)
def nm_X12_34 (dh : List nm_E) (a n : Nat) : List nm_E := (nm_X12_33 dh a n).set a (.inr (12, [.int 0, .int 0, .int (2 : Int32), .int (2 : Int32), .ref n, .int 0, .ref (n + 1), .int 0, .ref (n + 2), .ref (n + 3), .ref (n + 4), .ref (n + 5), .int 0, .ref (n + 6), .ref (n + 7), .int 0, .ref (n + 8), .ref (n + 9), .int 0, .ref (n + 10), .int 0, .ref (n + 11), .ref (n + 12), .ref (n + 13), .ref (n + 14), .ref (n + 15), .null, .null, .null, .null, .int 0, .int 0, .int 0, .int 0, .int 0, .null]) : nm_E)
theorem nl_X12_34 {dh : List nm_E} {a n : Nat} (h : dh.length = n) : (nm_X12_34 dh a n).length = n + 16 := by unfold nm_X12_34; rw [List.length_set]; exact nl_X12_33 h
theorem np_X12_34 {dh : List nm_E} {a n b : Nat} {e : nm_E} (hne : b ≠ a) (hb : b < n) (h : dh[b]? = some e) : (nm_X12_34 dh a n)[b]? = some e := nm_l4 (by omega) (np_X12_33 hne hb h)
def nm_X12_35 (dh : List nm_E) (a n : Nat) : List nm_E := (nm_X12_34 dh a n) ++ ([.inl (0, 201, fun _ => 0, fun _ => 0, [])] : List nm_E)
theorem nl_X12_35 {dh : List nm_E} {a n : Nat} (h : dh.length = n) : (nm_X12_35 dh a n).length = n + 17 := by unfold nm_X12_35; rw [List.length_append, nl_X12_34 h]; rfl
theorem np_X12_35 {dh : List nm_E} {a n b : Nat} {e : nm_E} (hne : b ≠ a) (hb : b < n) (h : dh[b]? = some e) : (nm_X12_35 dh a n)[b]? = some e := nm_l5 (np_X12_34 hne hb h)
def nm_X12_36 (dh : List nm_E) (a n : Nat) : List nm_E := (nm_X12_35 dh a n).set a (.inr (12, [.int 0, .int 0, .int (2 : Int32), .int (2 : Int32), .ref n, .int 0, .ref (n + 1), .int 0, .ref (n + 2), .ref (n + 3), .ref (n + 4), .ref (n + 5), .int 0, .ref (n + 6), .ref (n + 7), .int 0, .ref (n + 8), .ref (n + 9), .int 0, .ref (n + 10), .int 0, .ref (n + 11), .ref (n + 12), .ref (n + 13), .ref (n + 14), .ref (n + 15), .ref (n + 16), .null, .null, .null, .int 0, .int 0, .int 0, .int 0, .int 0, .null]) : nm_E)
theorem nl_X12_36 {dh : List nm_E} {a n : Nat} (h : dh.length = n) : (nm_X12_36 dh a n).length = n + 17 := by unfold nm_X12_36; rw [List.length_set]; exact nl_X12_35 h
theorem np_X12_36 {dh : List nm_E} {a n b : Nat} {e : nm_E} (hne : b ≠ a) (hb : b < n) (h : dh[b]? = some e) : (nm_X12_36 dh a n)[b]? = some e := nm_l4 (by omega) (np_X12_35 hne hb h)
def nm_X12_37 (dh : List nm_E) (a n : Nat) : List nm_E := (nm_X12_36 dh a n) ++ ([.inl (0, 201, fun _ => 0, fun _ => 0, [])] : List nm_E)
theorem nl_X12_37 {dh : List nm_E} {a n : Nat} (h : dh.length = n) : (nm_X12_37 dh a n).length = n + 18 := by unfold nm_X12_37; rw [List.length_append, nl_X12_36 h]; rfl
theorem np_X12_37 {dh : List nm_E} {a n b : Nat} {e : nm_E} (hne : b ≠ a) (hb : b < n) (h : dh[b]? = some e) : (nm_X12_37 dh a n)[b]? = some e := nm_l5 (np_X12_36 hne hb h)
def nm_X12_38 (dh : List nm_E) (a n : Nat) : List nm_E := (nm_X12_37 dh a n).set a (.inr (12, [.int 0, .int 0, .int (2 : Int32), .int (2 : Int32), .ref n, .int 0, .ref (n + 1), .int 0, .ref (n + 2), .ref (n + 3), .ref (n + 4), .ref (n + 5), .int 0, .ref (n + 6), .ref (n + 7), .int 0, .ref (n + 8), .ref (n + 9), .int 0, .ref (n + 10), .int 0, .ref (n + 11), .ref (n + 12), .ref (n + 13), .ref (n + 14), .ref (n + 15), .ref (n + 16), .ref (n + 17), .null, .null, .int 0, .int 0, .int 0, .int 0, .int 0, .null]) : nm_E)
theorem nl_X12_38 {dh : List nm_E} {a n : Nat} (h : dh.length = n) : (nm_X12_38 dh a n).length = n + 18 := by unfold nm_X12_38; rw [List.length_set]; exact nl_X12_37 h
theorem np_X12_38 {dh : List nm_E} {a n b : Nat} {e : nm_E} (hne : b ≠ a) (hb : b < n) (h : dh[b]? = some e) : (nm_X12_38 dh a n)[b]? = some e := nm_l4 (by omega) (np_X12_37 hne hb h)
def nm_X12_39 (dh : List nm_E) (a n : Nat) : List nm_E := (nm_X12_38 dh a n) ++ ([.inl (0, 200, fun _ => 0, fun _ => 0, [])] : List nm_E)
theorem nl_X12_39 {dh : List nm_E} {a n : Nat} (h : dh.length = n) : (nm_X12_39 dh a n).length = n + 19 := by unfold nm_X12_39; rw [List.length_append, nl_X12_38 h]; rfl
theorem np_X12_39 {dh : List nm_E} {a n b : Nat} {e : nm_E} (hne : b ≠ a) (hb : b < n) (h : dh[b]? = some e) : (nm_X12_39 dh a n)[b]? = some e := nm_l5 (np_X12_38 hne hb h)
def nm_X12_40 (dh : List nm_E) (a n : Nat) : List nm_E := (nm_X12_39 dh a n).set a (.inr (12, [.int 0, .int 0, .int (2 : Int32), .int (2 : Int32), .ref n, .int 0, .ref (n + 1), .int 0, .ref (n + 2), .ref (n + 3), .ref (n + 4), .ref (n + 5), .int 0, .ref (n + 6), .ref (n + 7), .int 0, .ref (n + 8), .ref (n + 9), .int 0, .ref (n + 10), .int 0, .ref (n + 11), .ref (n + 12), .ref (n + 13), .ref (n + 14), .ref (n + 15), .ref (n + 16), .ref (n + 17), .ref (n + 18), .null, .int 0, .int 0, .int 0, .int 0, .int 0, .null]) : nm_E)
theorem nl_X12_40 {dh : List nm_E} {a n : Nat} (h : dh.length = n) : (nm_X12_40 dh a n).length = n + 19 := by unfold nm_X12_40; rw [List.length_set]; exact nl_X12_39 h
theorem np_X12_40 {dh : List nm_E} {a n b : Nat} {e : nm_E} (hne : b ≠ a) (hb : b < n) (h : dh[b]? = some e) : (nm_X12_40 dh a n)[b]? = some e := nm_l4 (by omega) (np_X12_39 hne hb h)
def nm_X12_41 (dh : List nm_E) (a n : Nat) : List nm_E := (nm_X12_40 dh a n) ++ ([.inl (3, 64, fun _ => 0, fun _ => 0, [])] : List nm_E)
theorem nl_X12_41 {dh : List nm_E} {a n : Nat} (h : dh.length = n) : (nm_X12_41 dh a n).length = n + 20 := by unfold nm_X12_41; rw [List.length_append, nl_X12_40 h]; rfl
theorem np_X12_41 {dh : List nm_E} {a n b : Nat} {e : nm_E} (hne : b ≠ a) (hb : b < n) (h : dh[b]? = some e) : (nm_X12_41 dh a n)[b]? = some e := nm_l5 (np_X12_40 hne hb h)
def nm_X12_42 (dh : List nm_E) (a n : Nat) : List nm_E := (nm_X12_41 dh a n).set a (.inr (12, [.int 0, .int 0, .int (2 : Int32), .int (2 : Int32), .ref n, .int 0, .ref (n + 1), .int 0, .ref (n + 2), .ref (n + 3), .ref (n + 4), .ref (n + 5), .int 0, .ref (n + 6), .ref (n + 7), .int 0, .ref (n + 8), .ref (n + 9), .int 0, .ref (n + 10), .int 0, .ref (n + 11), .ref (n + 12), .ref (n + 13), .ref (n + 14), .ref (n + 15), .ref (n + 16), .ref (n + 17), .ref (n + 18), .ref (n + 19), .int 0, .int 0, .int 0, .int 0, .int 0, .null]) : nm_E)
theorem nl_X12_42 {dh : List nm_E} {a n : Nat} (h : dh.length = n) : (nm_X12_42 dh a n).length = n + 20 := by unfold nm_X12_42; rw [List.length_set]; exact nl_X12_41 h
theorem np_X12_42 {dh : List nm_E} {a n b : Nat} {e : nm_E} (hne : b ≠ a) (hb : b < n) (h : dh[b]? = some e) : (nm_X12_42 dh a n)[b]? = some e := nm_l4 (by omega) (np_X12_41 hne hb h)
def nm_X12_43 (dh : List nm_E) (a n : Nat) : List nm_E := (nm_X12_42 dh a n) ++ ([.inl (0, 240, fun _ => 0, fun _ => 0, [])] : List nm_E)
theorem nl_X12_43 {dh : List nm_E} {a n : Nat} (h : dh.length = n) : (nm_X12_43 dh a n).length = n + 21 := by unfold nm_X12_43; rw [List.length_append, nl_X12_42 h]; rfl
theorem np_X12_43 {dh : List nm_E} {a n b : Nat} {e : nm_E} (hne : b ≠ a) (hb : b < n) (h : dh[b]? = some e) : (nm_X12_43 dh a n)[b]? = some e := nm_l5 (np_X12_42 hne hb h)
def nm_X12_44 (dh : List nm_E) (a n : Nat) : List nm_E := (nm_X12_43 dh a n).set a (.inr (12, [.int 0, .int 0, .int (2 : Int32), .int (2 : Int32), .ref n, .int 0, .ref (n + 1), .int 0, .ref (n + 2), .ref (n + 3), .ref (n + 4), .ref (n + 5), .int 0, .ref (n + 6), .ref (n + 7), .int 0, .ref (n + 8), .ref (n + 9), .int 0, .ref (n + 10), .int 0, .ref (n + 11), .ref (n + 12), .ref (n + 13), .ref (n + 14), .ref (n + 15), .ref (n + 16), .ref (n + 17), .ref (n + 18), .ref (n + 19), .int 0, .int 0, .int 0, .int 0, .int 0, .ref (n + 20)]) : nm_E)
theorem nl_X12_44 {dh : List nm_E} {a n : Nat} (h : dh.length = n) : (nm_X12_44 dh a n).length = n + 21 := by unfold nm_X12_44; rw [List.length_set]; exact nl_X12_43 h
theorem np_X12_44 {dh : List nm_E} {a n b : Nat} {e : nm_E} (hne : b ≠ a) (hb : b < n) (h : dh[b]? = some e) : (nm_X12_44 dh a n)[b]? = some e := nm_l4 (by omega) (np_X12_43 hne hb h)
abbrev nm_X12 (dh : List nm_E) (a n : Nat) : List nm_E := nm_X12_44 dh a n
theorem nl_X12 {dh : List nm_E} {a n : Nat} (h : dh.length = n) : (nm_X12 dh a n).length = n + 21 := nl_X12_44 h
theorem np_X12 {dh : List nm_E} {a n b : Nat} {e : nm_E} (hne : b ≠ a) (hb : b < n) (h : dh[b]? = some e) : (nm_X12 dh a n)[b]? = some e := np_X12_44 hne hb h
set_option maxRecDepth 100000 in
set_option maxHeartbeats 1000000 in
theorem cN_X12_p23 {dh d44 : List nm_E} {a n : Nat} (han : a < n) (hp : 0 < n) (l44 : d44.length = (n + 21)) (t44 : d44[a]? = some (.inr (12, [.int 0, .int 0, .int (2 : Int32), .int (2 : Int32), .ref n, .int 0, .ref (n + 1), .int 0, .ref (n + 2), .ref (n + 3), .ref (n + 4), .ref (n + 5), .int 0, .ref (n + 6), .ref (n + 7), .int 0, .ref (n + 8), .ref (n + 9), .int 0, .ref (n + 10), .int 0, .ref (n + 11), .ref (n + 12), .ref (n + 13), .ref (n + 14), .ref (n + 15), .ref (n + 16), .ref (n + 17), .ref (n + 18), .ref (n + 19), .int 0, .int 0, .int 0, .int 0, .int 0, .ref (n + 20)]))) (E44 : d44 = nm_X12_44 dh a n) {sk : List sm_Sh} {M M1 : sm_M} {fs9 : List (Option Nat)} (hdy : nm_X12_44 dh a n = nm_dy sk M) (hA : sk[a]? = some (.inr (12, fs9))) (hC : sm_Ct yX12_fill md_X12_fill 2 sk (.ref a :: []) M (.inl none) M1) : nm_J (md_X12_init, 4, 21, 43867, n, nm_dy sk M1) 198 [some (.ref a)] [] d44 21 43867 := by
  refine nm_aload_n (q := 199) d_X12_init_198 rfl rfl ?_
  refine nm_callV (q := 202) (sk := sk) (M := M) (d' := 2) [] [] d_X12_init_199 rfl lkc_X12_87 (E44.trans hdy) hA rfl rfl rfl (Nat.le_of_ble_eq_true rfl) (Nat.le_of_ble_eq_true rfl) (Nat.le_of_ble_eq_true rfl) (Nat.le_of_ble_eq_true rfl) hC ?_
  exact nm_ret (nc := 21) (ns := 43867) d_X12_init_202 rfl rfl rfl
set_option maxRecDepth 100000 in
set_option maxHeartbeats 1000000 in
theorem cN_X12_p22 {dh d42 : List nm_E} {a n : Nat} (han : a < n) (hp : 0 < n) (l42 : d42.length = (n + 20)) (t42 : d42[a]? = some (.inr (12, [.int 0, .int 0, .int (2 : Int32), .int (2 : Int32), .ref n, .int 0, .ref (n + 1), .int 0, .ref (n + 2), .ref (n + 3), .ref (n + 4), .ref (n + 5), .int 0, .ref (n + 6), .ref (n + 7), .int 0, .ref (n + 8), .ref (n + 9), .int 0, .ref (n + 10), .int 0, .ref (n + 11), .ref (n + 12), .ref (n + 13), .ref (n + 14), .ref (n + 15), .ref (n + 16), .ref (n + 17), .ref (n + 18), .ref (n + 19), .int 0, .int 0, .int 0, .int 0, .int 0, .null]))) (E42 : d42 = nm_X12_42 dh a n) {sk : List sm_Sh} {M M1 : sm_M} {fs9 : List (Option Nat)} (hdy : nm_X12_44 dh a n = nm_dy sk M) (hA : sk[a]? = some (.inr (12, fs9))) (hC : sm_Ct yX12_fill md_X12_fill 2 sk (.ref a :: []) M (.inl none) M1) : nm_J (md_X12_init, 4, 21, 43867, n, nm_dy sk M1) 189 [some (.ref a)] [] d42 20 43627 := by
  refine nm_aload_n (q := 190) d_X12_init_189 rfl rfl ?_
  refine nm_sipush (q := 193) (v := 240) d_X12_init_190 rfl (by decide) ?_
  refine nm_newarray (nc := 20) (ns := 43627) (q := 195) (n := (n + 20)) (N := 240) d_X12_init_193 rfl ac_0 (Or.inl ⟨rfl, rfl⟩) (by decide) (by decide) (Nat.le_of_ble_eq_true rfl) l42 rfl (Nat.succ_pos _) (Nat.le_of_ble_eq_true rfl) (Nat.le_of_ble_eq_true rfl) (fun d43 e43 => ?_)
  have l43 : d43.length = (n + 21) := nm_la e43 l42
  have t43 : d43[a]? = some (.inr (12, [.int 0, .int 0, .int (2 : Int32), .int (2 : Int32), .ref n, .int 0, .ref (n + 1), .int 0, .ref (n + 2), .ref (n + 3), .ref (n + 4), .ref (n + 5), .int 0, .ref (n + 6), .ref (n + 7), .int 0, .ref (n + 8), .ref (n + 9), .int 0, .ref (n + 10), .int 0, .ref (n + 11), .ref (n + 12), .ref (n + 13), .ref (n + 14), .ref (n + 15), .ref (n + 16), .ref (n + 17), .ref (n + 18), .ref (n + 19), .int 0, .int 0, .int 0, .int 0, .int 0, .null])) := by rw [e43]; exact nm_l1 t42
  have E43 : d43 = nm_X12_43 dh a n := by rw [e43, E42]; rfl
  refine nm_putF (q := 198) (fs1 := [.int 0, .int 0, .int (2 : Int32), .int (2 : Int32), .ref n, .int 0, .ref (n + 1), .int 0, .ref (n + 2), .ref (n + 3), .ref (n + 4), .ref (n + 5), .int 0, .ref (n + 6), .ref (n + 7), .int 0, .ref (n + 8), .ref (n + 9), .int 0, .ref (n + 10), .int 0, .ref (n + 11), .ref (n + 12), .ref (n + 13), .ref (n + 14), .ref (n + 15), .ref (n + 16), .ref (n + 17), .ref (n + 18), .ref (n + 19), .int 0, .int 0, .int 0, .int 0, .int 0, .ref (n + 20)]) d_X12_init_195 rfl ff_X12_84 t43 (Nat.le_of_ble_eq_true rfl) (fun _ => ⟨rfl, rfl⟩) rfl (fun d44 e44 => ?_)
  have l44 : d44.length = (n + 21) := nm_ls e44 l43
  have t44 : d44[a]? = some (.inr (12, [.int 0, .int 0, .int (2 : Int32), .int (2 : Int32), .ref n, .int 0, .ref (n + 1), .int 0, .ref (n + 2), .ref (n + 3), .ref (n + 4), .ref (n + 5), .int 0, .ref (n + 6), .ref (n + 7), .int 0, .ref (n + 8), .ref (n + 9), .int 0, .ref (n + 10), .int 0, .ref (n + 11), .ref (n + 12), .ref (n + 13), .ref (n + 14), .ref (n + 15), .ref (n + 16), .ref (n + 17), .ref (n + 18), .ref (n + 19), .int 0, .int 0, .int 0, .int 0, .int 0, .ref (n + 20)])) := by rw [e44]; exact nm_l2 t43
  have E44 : d44 = nm_X12_44 dh a n := by rw [e44, E43]; rfl
  exact cN_X12_p23 han hp l44 t44 E44 hdy hA hC
set_option maxRecDepth 100000 in
set_option maxHeartbeats 1000000 in
theorem cN_X12_p21 {dh d40 : List nm_E} {a n : Nat} (han : a < n) (hp : 0 < n) (l40 : d40.length = (n + 19)) (t40 : d40[a]? = some (.inr (12, [.int 0, .int 0, .int (2 : Int32), .int (2 : Int32), .ref n, .int 0, .ref (n + 1), .int 0, .ref (n + 2), .ref (n + 3), .ref (n + 4), .ref (n + 5), .int 0, .ref (n + 6), .ref (n + 7), .int 0, .ref (n + 8), .ref (n + 9), .int 0, .ref (n + 10), .int 0, .ref (n + 11), .ref (n + 12), .ref (n + 13), .ref (n + 14), .ref (n + 15), .ref (n + 16), .ref (n + 17), .ref (n + 18), .null, .int 0, .int 0, .int 0, .int 0, .int 0, .null]))) (E40 : d40 = nm_X12_40 dh a n) {sk : List sm_Sh} {M M1 : sm_M} {fs9 : List (Option Nat)} (hdy : nm_X12_44 dh a n = nm_dy sk M) (hA : sk[a]? = some (.inr (12, fs9))) (hC : sm_Ct yX12_fill md_X12_fill 2 sk (.ref a :: []) M (.inl none) M1) : nm_J (md_X12_init, 4, 21, 43867, n, nm_dy sk M1) 181 [some (.ref a)] [] d40 19 43563 := by
  refine nm_aload_n (q := 182) d_X12_init_181 rfl rfl ?_
  refine nm_bipush (q := 184) (v := 64) d_X12_init_182 rfl (by decide) ?_
  refine nm_newarray (nc := 19) (ns := 43563) (q := 186) (n := (n + 19)) (N := 64) d_X12_init_184 rfl ac_3 (Or.inr (Or.inr (Or.inr ⟨rfl, rfl⟩))) (by decide) (by decide) (Nat.le_of_ble_eq_true rfl) l40 rfl (Nat.succ_pos _) (Nat.le_of_ble_eq_true rfl) (Nat.le_of_ble_eq_true rfl) (fun d41 e41 => ?_)
  have l41 : d41.length = (n + 20) := nm_la e41 l40
  have t41 : d41[a]? = some (.inr (12, [.int 0, .int 0, .int (2 : Int32), .int (2 : Int32), .ref n, .int 0, .ref (n + 1), .int 0, .ref (n + 2), .ref (n + 3), .ref (n + 4), .ref (n + 5), .int 0, .ref (n + 6), .ref (n + 7), .int 0, .ref (n + 8), .ref (n + 9), .int 0, .ref (n + 10), .int 0, .ref (n + 11), .ref (n + 12), .ref (n + 13), .ref (n + 14), .ref (n + 15), .ref (n + 16), .ref (n + 17), .ref (n + 18), .null, .int 0, .int 0, .int 0, .int 0, .int 0, .null])) := by rw [e41]; exact nm_l1 t40
  have E41 : d41 = nm_X12_41 dh a n := by rw [e41, E40]; rfl
  refine nm_putF (q := 189) (fs1 := [.int 0, .int 0, .int (2 : Int32), .int (2 : Int32), .ref n, .int 0, .ref (n + 1), .int 0, .ref (n + 2), .ref (n + 3), .ref (n + 4), .ref (n + 5), .int 0, .ref (n + 6), .ref (n + 7), .int 0, .ref (n + 8), .ref (n + 9), .int 0, .ref (n + 10), .int 0, .ref (n + 11), .ref (n + 12), .ref (n + 13), .ref (n + 14), .ref (n + 15), .ref (n + 16), .ref (n + 17), .ref (n + 18), .ref (n + 19), .int 0, .int 0, .int 0, .int 0, .int 0, .null]) d_X12_init_186 rfl ff_X12_80 t41 (Nat.le_of_ble_eq_true rfl) (fun _ => ⟨rfl, rfl⟩) rfl (fun d42 e42 => ?_)
  have l42 : d42.length = (n + 20) := nm_ls e42 l41
  have t42 : d42[a]? = some (.inr (12, [.int 0, .int 0, .int (2 : Int32), .int (2 : Int32), .ref n, .int 0, .ref (n + 1), .int 0, .ref (n + 2), .ref (n + 3), .ref (n + 4), .ref (n + 5), .int 0, .ref (n + 6), .ref (n + 7), .int 0, .ref (n + 8), .ref (n + 9), .int 0, .ref (n + 10), .int 0, .ref (n + 11), .ref (n + 12), .ref (n + 13), .ref (n + 14), .ref (n + 15), .ref (n + 16), .ref (n + 17), .ref (n + 18), .ref (n + 19), .int 0, .int 0, .int 0, .int 0, .int 0, .null])) := by rw [e42]; exact nm_l2 t41
  have E42 : d42 = nm_X12_42 dh a n := by rw [e42, E41]; rfl
  exact cN_X12_p22 han hp l42 t42 E42 hdy hA hC
set_option maxRecDepth 100000 in
set_option maxHeartbeats 1000000 in
theorem cN_X12_p20 {dh d38 : List nm_E} {a n : Nat} (han : a < n) (hp : 0 < n) (l38 : d38.length = (n + 18)) (t38 : d38[a]? = some (.inr (12, [.int 0, .int 0, .int (2 : Int32), .int (2 : Int32), .ref n, .int 0, .ref (n + 1), .int 0, .ref (n + 2), .ref (n + 3), .ref (n + 4), .ref (n + 5), .int 0, .ref (n + 6), .ref (n + 7), .int 0, .ref (n + 8), .ref (n + 9), .int 0, .ref (n + 10), .int 0, .ref (n + 11), .ref (n + 12), .ref (n + 13), .ref (n + 14), .ref (n + 15), .ref (n + 16), .ref (n + 17), .null, .null, .int 0, .int 0, .int 0, .int 0, .int 0, .null]))) (E38 : d38 = nm_X12_38 dh a n) {sk : List sm_Sh} {M M1 : sm_M} {fs9 : List (Option Nat)} (hdy : nm_X12_44 dh a n = nm_dy sk M) (hA : sk[a]? = some (.inr (12, fs9))) (hC : sm_Ct yX12_fill md_X12_fill 2 sk (.ref a :: []) M (.inl none) M1) : nm_J (md_X12_init, 4, 21, 43867, n, nm_dy sk M1) 172 [some (.ref a)] [] d38 18 43363 := by
  refine nm_aload_n (q := 173) d_X12_init_172 rfl rfl ?_
  refine nm_sipush (q := 176) (v := 200) d_X12_init_173 rfl (by decide) ?_
  refine nm_newarray (nc := 18) (ns := 43363) (q := 178) (n := (n + 18)) (N := 200) d_X12_init_176 rfl ac_0 (Or.inl ⟨rfl, rfl⟩) (by decide) (by decide) (Nat.le_of_ble_eq_true rfl) l38 rfl (Nat.succ_pos _) (Nat.le_of_ble_eq_true rfl) (Nat.le_of_ble_eq_true rfl) (fun d39 e39 => ?_)
  have l39 : d39.length = (n + 19) := nm_la e39 l38
  have t39 : d39[a]? = some (.inr (12, [.int 0, .int 0, .int (2 : Int32), .int (2 : Int32), .ref n, .int 0, .ref (n + 1), .int 0, .ref (n + 2), .ref (n + 3), .ref (n + 4), .ref (n + 5), .int 0, .ref (n + 6), .ref (n + 7), .int 0, .ref (n + 8), .ref (n + 9), .int 0, .ref (n + 10), .int 0, .ref (n + 11), .ref (n + 12), .ref (n + 13), .ref (n + 14), .ref (n + 15), .ref (n + 16), .ref (n + 17), .null, .null, .int 0, .int 0, .int 0, .int 0, .int 0, .null])) := by rw [e39]; exact nm_l1 t38
  have E39 : d39 = nm_X12_39 dh a n := by rw [e39, E38]; rfl
  refine nm_putF (q := 181) (fs1 := [.int 0, .int 0, .int (2 : Int32), .int (2 : Int32), .ref n, .int 0, .ref (n + 1), .int 0, .ref (n + 2), .ref (n + 3), .ref (n + 4), .ref (n + 5), .int 0, .ref (n + 6), .ref (n + 7), .int 0, .ref (n + 8), .ref (n + 9), .int 0, .ref (n + 10), .int 0, .ref (n + 11), .ref (n + 12), .ref (n + 13), .ref (n + 14), .ref (n + 15), .ref (n + 16), .ref (n + 17), .ref (n + 18), .null, .int 0, .int 0, .int 0, .int 0, .int 0, .null]) d_X12_init_178 rfl ff_X12_77 t39 (Nat.le_of_ble_eq_true rfl) (fun _ => ⟨rfl, rfl⟩) rfl (fun d40 e40 => ?_)
  have l40 : d40.length = (n + 19) := nm_ls e40 l39
  have t40 : d40[a]? = some (.inr (12, [.int 0, .int 0, .int (2 : Int32), .int (2 : Int32), .ref n, .int 0, .ref (n + 1), .int 0, .ref (n + 2), .ref (n + 3), .ref (n + 4), .ref (n + 5), .int 0, .ref (n + 6), .ref (n + 7), .int 0, .ref (n + 8), .ref (n + 9), .int 0, .ref (n + 10), .int 0, .ref (n + 11), .ref (n + 12), .ref (n + 13), .ref (n + 14), .ref (n + 15), .ref (n + 16), .ref (n + 17), .ref (n + 18), .null, .int 0, .int 0, .int 0, .int 0, .int 0, .null])) := by rw [e40]; exact nm_l2 t39
  have E40 : d40 = nm_X12_40 dh a n := by rw [e40, E39]; rfl
  exact cN_X12_p21 han hp l40 t40 E40 hdy hA hC
set_option maxRecDepth 100000 in
set_option maxHeartbeats 1000000 in
theorem cN_X12_p19 {dh d36 : List nm_E} {a n : Nat} (han : a < n) (hp : 0 < n) (l36 : d36.length = (n + 17)) (t36 : d36[a]? = some (.inr (12, [.int 0, .int 0, .int (2 : Int32), .int (2 : Int32), .ref n, .int 0, .ref (n + 1), .int 0, .ref (n + 2), .ref (n + 3), .ref (n + 4), .ref (n + 5), .int 0, .ref (n + 6), .ref (n + 7), .int 0, .ref (n + 8), .ref (n + 9), .int 0, .ref (n + 10), .int 0, .ref (n + 11), .ref (n + 12), .ref (n + 13), .ref (n + 14), .ref (n + 15), .ref (n + 16), .null, .null, .null, .int 0, .int 0, .int 0, .int 0, .int 0, .null]))) (E36 : d36 = nm_X12_36 dh a n) {sk : List sm_Sh} {M M1 : sm_M} {fs9 : List (Option Nat)} (hdy : nm_X12_44 dh a n = nm_dy sk M) (hA : sk[a]? = some (.inr (12, fs9))) (hC : sm_Ct yX12_fill md_X12_fill 2 sk (.ref a :: []) M (.inl none) M1) : nm_J (md_X12_init, 4, 21, 43867, n, nm_dy sk M1) 163 [some (.ref a)] [] d36 17 43162 := by
  refine nm_aload_n (q := 164) d_X12_init_163 rfl rfl ?_
  refine nm_sipush (q := 167) (v := 201) d_X12_init_164 rfl (by decide) ?_
  refine nm_newarray (nc := 17) (ns := 43162) (q := 169) (n := (n + 17)) (N := 201) d_X12_init_167 rfl ac_0 (Or.inl ⟨rfl, rfl⟩) (by decide) (by decide) (Nat.le_of_ble_eq_true rfl) l36 rfl (Nat.succ_pos _) (Nat.le_of_ble_eq_true rfl) (Nat.le_of_ble_eq_true rfl) (fun d37 e37 => ?_)
  have l37 : d37.length = (n + 18) := nm_la e37 l36
  have t37 : d37[a]? = some (.inr (12, [.int 0, .int 0, .int (2 : Int32), .int (2 : Int32), .ref n, .int 0, .ref (n + 1), .int 0, .ref (n + 2), .ref (n + 3), .ref (n + 4), .ref (n + 5), .int 0, .ref (n + 6), .ref (n + 7), .int 0, .ref (n + 8), .ref (n + 9), .int 0, .ref (n + 10), .int 0, .ref (n + 11), .ref (n + 12), .ref (n + 13), .ref (n + 14), .ref (n + 15), .ref (n + 16), .null, .null, .null, .int 0, .int 0, .int 0, .int 0, .int 0, .null])) := by rw [e37]; exact nm_l1 t36
  have E37 : d37 = nm_X12_37 dh a n := by rw [e37, E36]; rfl
  refine nm_putF (q := 172) (fs1 := [.int 0, .int 0, .int (2 : Int32), .int (2 : Int32), .ref n, .int 0, .ref (n + 1), .int 0, .ref (n + 2), .ref (n + 3), .ref (n + 4), .ref (n + 5), .int 0, .ref (n + 6), .ref (n + 7), .int 0, .ref (n + 8), .ref (n + 9), .int 0, .ref (n + 10), .int 0, .ref (n + 11), .ref (n + 12), .ref (n + 13), .ref (n + 14), .ref (n + 15), .ref (n + 16), .ref (n + 17), .null, .null, .int 0, .int 0, .int 0, .int 0, .int 0, .null]) d_X12_init_169 rfl ff_X12_74 t37 (Nat.le_of_ble_eq_true rfl) (fun _ => ⟨rfl, rfl⟩) rfl (fun d38 e38 => ?_)
  have l38 : d38.length = (n + 18) := nm_ls e38 l37
  have t38 : d38[a]? = some (.inr (12, [.int 0, .int 0, .int (2 : Int32), .int (2 : Int32), .ref n, .int 0, .ref (n + 1), .int 0, .ref (n + 2), .ref (n + 3), .ref (n + 4), .ref (n + 5), .int 0, .ref (n + 6), .ref (n + 7), .int 0, .ref (n + 8), .ref (n + 9), .int 0, .ref (n + 10), .int 0, .ref (n + 11), .ref (n + 12), .ref (n + 13), .ref (n + 14), .ref (n + 15), .ref (n + 16), .ref (n + 17), .null, .null, .int 0, .int 0, .int 0, .int 0, .int 0, .null])) := by rw [e38]; exact nm_l2 t37
  have E38 : d38 = nm_X12_38 dh a n := by rw [e38, E37]; rfl
  exact cN_X12_p20 han hp l38 t38 E38 hdy hA hC
set_option maxRecDepth 100000 in
set_option maxHeartbeats 1000000 in
theorem cN_X12_p18 {dh d34 : List nm_E} {a n : Nat} (han : a < n) (hp : 0 < n) (l34 : d34.length = (n + 16)) (t34 : d34[a]? = some (.inr (12, [.int 0, .int 0, .int (2 : Int32), .int (2 : Int32), .ref n, .int 0, .ref (n + 1), .int 0, .ref (n + 2), .ref (n + 3), .ref (n + 4), .ref (n + 5), .int 0, .ref (n + 6), .ref (n + 7), .int 0, .ref (n + 8), .ref (n + 9), .int 0, .ref (n + 10), .int 0, .ref (n + 11), .ref (n + 12), .ref (n + 13), .ref (n + 14), .ref (n + 15), .null, .null, .null, .null, .int 0, .int 0, .int 0, .int 0, .int 0, .null]))) (E34 : d34 = nm_X12_34 dh a n) {sk : List sm_Sh} {M M1 : sm_M} {fs9 : List (Option Nat)} (hdy : nm_X12_44 dh a n = nm_dy sk M) (hA : sk[a]? = some (.inr (12, fs9))) (hC : sm_Ct yX12_fill md_X12_fill 2 sk (.ref a :: []) M (.inl none) M1) : nm_J (md_X12_init, 4, 21, 43867, n, nm_dy sk M1) 154 [some (.ref a)] [] d34 16 42961 := by
  refine nm_aload_n (q := 155) d_X12_init_154 rfl rfl ?_
  refine nm_sipush (q := 158) (v := 201) d_X12_init_155 rfl (by decide) ?_
  refine nm_newarray (nc := 16) (ns := 42961) (q := 160) (n := (n + 16)) (N := 201) d_X12_init_158 rfl ac_0 (Or.inl ⟨rfl, rfl⟩) (by decide) (by decide) (Nat.le_of_ble_eq_true rfl) l34 rfl (Nat.succ_pos _) (Nat.le_of_ble_eq_true rfl) (Nat.le_of_ble_eq_true rfl) (fun d35 e35 => ?_)
  have l35 : d35.length = (n + 17) := nm_la e35 l34
  have t35 : d35[a]? = some (.inr (12, [.int 0, .int 0, .int (2 : Int32), .int (2 : Int32), .ref n, .int 0, .ref (n + 1), .int 0, .ref (n + 2), .ref (n + 3), .ref (n + 4), .ref (n + 5), .int 0, .ref (n + 6), .ref (n + 7), .int 0, .ref (n + 8), .ref (n + 9), .int 0, .ref (n + 10), .int 0, .ref (n + 11), .ref (n + 12), .ref (n + 13), .ref (n + 14), .ref (n + 15), .null, .null, .null, .null, .int 0, .int 0, .int 0, .int 0, .int 0, .null])) := by rw [e35]; exact nm_l1 t34
  have E35 : d35 = nm_X12_35 dh a n := by rw [e35, E34]; rfl
  refine nm_putF (q := 163) (fs1 := [.int 0, .int 0, .int (2 : Int32), .int (2 : Int32), .ref n, .int 0, .ref (n + 1), .int 0, .ref (n + 2), .ref (n + 3), .ref (n + 4), .ref (n + 5), .int 0, .ref (n + 6), .ref (n + 7), .int 0, .ref (n + 8), .ref (n + 9), .int 0, .ref (n + 10), .int 0, .ref (n + 11), .ref (n + 12), .ref (n + 13), .ref (n + 14), .ref (n + 15), .ref (n + 16), .null, .null, .null, .int 0, .int 0, .int 0, .int 0, .int 0, .null]) d_X12_init_160 rfl ff_X12_71 t35 (Nat.le_of_ble_eq_true rfl) (fun _ => ⟨rfl, rfl⟩) rfl (fun d36 e36 => ?_)
  have l36 : d36.length = (n + 17) := nm_ls e36 l35
  have t36 : d36[a]? = some (.inr (12, [.int 0, .int 0, .int (2 : Int32), .int (2 : Int32), .ref n, .int 0, .ref (n + 1), .int 0, .ref (n + 2), .ref (n + 3), .ref (n + 4), .ref (n + 5), .int 0, .ref (n + 6), .ref (n + 7), .int 0, .ref (n + 8), .ref (n + 9), .int 0, .ref (n + 10), .int 0, .ref (n + 11), .ref (n + 12), .ref (n + 13), .ref (n + 14), .ref (n + 15), .ref (n + 16), .null, .null, .null, .int 0, .int 0, .int 0, .int 0, .int 0, .null])) := by rw [e36]; exact nm_l2 t35
  have E36 : d36 = nm_X12_36 dh a n := by rw [e36, E35]; rfl
  exact cN_X12_p19 han hp l36 t36 E36 hdy hA hC
set_option maxRecDepth 100000 in
set_option maxHeartbeats 1000000 in
theorem cN_X12_p17 {dh d32 : List nm_E} {a n : Nat} (han : a < n) (hp : 0 < n) (l32 : d32.length = (n + 15)) (t32 : d32[a]? = some (.inr (12, [.int 0, .int 0, .int (2 : Int32), .int (2 : Int32), .ref n, .int 0, .ref (n + 1), .int 0, .ref (n + 2), .ref (n + 3), .ref (n + 4), .ref (n + 5), .int 0, .ref (n + 6), .ref (n + 7), .int 0, .ref (n + 8), .ref (n + 9), .int 0, .ref (n + 10), .int 0, .ref (n + 11), .ref (n + 12), .ref (n + 13), .ref (n + 14), .null, .null, .null, .null, .null, .int 0, .int 0, .int 0, .int 0, .int 0, .null]))) (E32 : d32 = nm_X12_32 dh a n) {sk : List sm_Sh} {M M1 : sm_M} {fs9 : List (Option Nat)} (hdy : nm_X12_44 dh a n = nm_dy sk M) (hA : sk[a]? = some (.inr (12, fs9))) (hC : sm_Ct yX12_fill md_X12_fill 2 sk (.ref a :: []) M (.inl none) M1) : nm_J (md_X12_init, 4, 21, 43867, n, nm_dy sk M1) 145 [some (.ref a)] [] d32 15 42761 := by
  refine nm_aload_n (q := 146) d_X12_init_145 rfl rfl ?_
  refine nm_sipush (q := 149) (v := 200) d_X12_init_146 rfl (by decide) ?_
  refine nm_newarray (nc := 15) (ns := 42761) (q := 151) (n := (n + 15)) (N := 200) d_X12_init_149 rfl ac_2 (Or.inr (Or.inr (Or.inl ⟨rfl, rfl⟩))) (by decide) (by decide) (Nat.le_of_ble_eq_true rfl) l32 rfl (Nat.succ_pos _) (Nat.le_of_ble_eq_true rfl) (Nat.le_of_ble_eq_true rfl) (fun d33 e33 => ?_)
  have l33 : d33.length = (n + 16) := nm_la e33 l32
  have t33 : d33[a]? = some (.inr (12, [.int 0, .int 0, .int (2 : Int32), .int (2 : Int32), .ref n, .int 0, .ref (n + 1), .int 0, .ref (n + 2), .ref (n + 3), .ref (n + 4), .ref (n + 5), .int 0, .ref (n + 6), .ref (n + 7), .int 0, .ref (n + 8), .ref (n + 9), .int 0, .ref (n + 10), .int 0, .ref (n + 11), .ref (n + 12), .ref (n + 13), .ref (n + 14), .null, .null, .null, .null, .null, .int 0, .int 0, .int 0, .int 0, .int 0, .null])) := by rw [e33]; exact nm_l1 t32
  have E33 : d33 = nm_X12_33 dh a n := by rw [e33, E32]; rfl
  refine nm_putF (q := 154) (fs1 := [.int 0, .int 0, .int (2 : Int32), .int (2 : Int32), .ref n, .int 0, .ref (n + 1), .int 0, .ref (n + 2), .ref (n + 3), .ref (n + 4), .ref (n + 5), .int 0, .ref (n + 6), .ref (n + 7), .int 0, .ref (n + 8), .ref (n + 9), .int 0, .ref (n + 10), .int 0, .ref (n + 11), .ref (n + 12), .ref (n + 13), .ref (n + 14), .ref (n + 15), .null, .null, .null, .null, .int 0, .int 0, .int 0, .int 0, .int 0, .null]) d_X12_init_151 rfl ff_X12_68 t33 (Nat.le_of_ble_eq_true rfl) (fun _ => ⟨rfl, rfl⟩) rfl (fun d34 e34 => ?_)
  have l34 : d34.length = (n + 16) := nm_ls e34 l33
  have t34 : d34[a]? = some (.inr (12, [.int 0, .int 0, .int (2 : Int32), .int (2 : Int32), .ref n, .int 0, .ref (n + 1), .int 0, .ref (n + 2), .ref (n + 3), .ref (n + 4), .ref (n + 5), .int 0, .ref (n + 6), .ref (n + 7), .int 0, .ref (n + 8), .ref (n + 9), .int 0, .ref (n + 10), .int 0, .ref (n + 11), .ref (n + 12), .ref (n + 13), .ref (n + 14), .ref (n + 15), .null, .null, .null, .null, .int 0, .int 0, .int 0, .int 0, .int 0, .null])) := by rw [e34]; exact nm_l2 t33
  have E34 : d34 = nm_X12_34 dh a n := by rw [e34, E33]; rfl
  exact cN_X12_p18 han hp l34 t34 E34 hdy hA hC
set_option maxRecDepth 100000 in
set_option maxHeartbeats 1000000 in
theorem cN_X12_p16 {dh d30 : List nm_E} {a n : Nat} (han : a < n) (hp : 0 < n) (l30 : d30.length = (n + 14)) (t30 : d30[a]? = some (.inr (12, [.int 0, .int 0, .int (2 : Int32), .int (2 : Int32), .ref n, .int 0, .ref (n + 1), .int 0, .ref (n + 2), .ref (n + 3), .ref (n + 4), .ref (n + 5), .int 0, .ref (n + 6), .ref (n + 7), .int 0, .ref (n + 8), .ref (n + 9), .int 0, .ref (n + 10), .int 0, .ref (n + 11), .ref (n + 12), .ref (n + 13), .null, .null, .null, .null, .null, .null, .int 0, .int 0, .int 0, .int 0, .int 0, .null]))) (E30 : d30 = nm_X12_30 dh a n) {sk : List sm_Sh} {M M1 : sm_M} {fs9 : List (Option Nat)} (hdy : nm_X12_44 dh a n = nm_dy sk M) (hA : sk[a]? = some (.inr (12, fs9))) (hC : sm_Ct yX12_fill md_X12_fill 2 sk (.ref a :: []) M (.inl none) M1) : nm_J (md_X12_init, 4, 21, 43867, n, nm_dy sk M1) 136 [some (.ref a)] [] d30 14 42561 := by
  refine nm_aload_n (q := 137) d_X12_init_136 rfl rfl ?_
  refine nm_sipush (q := 140) (v := 200) d_X12_init_137 rfl (by decide) ?_
  refine nm_newarray (nc := 14) (ns := 42561) (q := 142) (n := (n + 14)) (N := 200) d_X12_init_140 rfl ac_0 (Or.inl ⟨rfl, rfl⟩) (by decide) (by decide) (Nat.le_of_ble_eq_true rfl) l30 rfl (Nat.succ_pos _) (Nat.le_of_ble_eq_true rfl) (Nat.le_of_ble_eq_true rfl) (fun d31 e31 => ?_)
  have l31 : d31.length = (n + 15) := nm_la e31 l30
  have t31 : d31[a]? = some (.inr (12, [.int 0, .int 0, .int (2 : Int32), .int (2 : Int32), .ref n, .int 0, .ref (n + 1), .int 0, .ref (n + 2), .ref (n + 3), .ref (n + 4), .ref (n + 5), .int 0, .ref (n + 6), .ref (n + 7), .int 0, .ref (n + 8), .ref (n + 9), .int 0, .ref (n + 10), .int 0, .ref (n + 11), .ref (n + 12), .ref (n + 13), .null, .null, .null, .null, .null, .null, .int 0, .int 0, .int 0, .int 0, .int 0, .null])) := by rw [e31]; exact nm_l1 t30
  have E31 : d31 = nm_X12_31 dh a n := by rw [e31, E30]; rfl
  refine nm_putF (q := 145) (fs1 := [.int 0, .int 0, .int (2 : Int32), .int (2 : Int32), .ref n, .int 0, .ref (n + 1), .int 0, .ref (n + 2), .ref (n + 3), .ref (n + 4), .ref (n + 5), .int 0, .ref (n + 6), .ref (n + 7), .int 0, .ref (n + 8), .ref (n + 9), .int 0, .ref (n + 10), .int 0, .ref (n + 11), .ref (n + 12), .ref (n + 13), .ref (n + 14), .null, .null, .null, .null, .null, .int 0, .int 0, .int 0, .int 0, .int 0, .null]) d_X12_init_142 rfl ff_X12_65 t31 (Nat.le_of_ble_eq_true rfl) (fun _ => ⟨rfl, rfl⟩) rfl (fun d32 e32 => ?_)
  have l32 : d32.length = (n + 15) := nm_ls e32 l31
  have t32 : d32[a]? = some (.inr (12, [.int 0, .int 0, .int (2 : Int32), .int (2 : Int32), .ref n, .int 0, .ref (n + 1), .int 0, .ref (n + 2), .ref (n + 3), .ref (n + 4), .ref (n + 5), .int 0, .ref (n + 6), .ref (n + 7), .int 0, .ref (n + 8), .ref (n + 9), .int 0, .ref (n + 10), .int 0, .ref (n + 11), .ref (n + 12), .ref (n + 13), .ref (n + 14), .null, .null, .null, .null, .null, .int 0, .int 0, .int 0, .int 0, .int 0, .null])) := by rw [e32]; exact nm_l2 t31
  have E32 : d32 = nm_X12_32 dh a n := by rw [e32, E31]; rfl
  exact cN_X12_p17 han hp l32 t32 E32 hdy hA hC
set_option maxRecDepth 100000 in
set_option maxHeartbeats 1000000 in
theorem cN_X12_p15 {dh d28 : List nm_E} {a n : Nat} (han : a < n) (hp : 0 < n) (l28 : d28.length = (n + 13)) (t28 : d28[a]? = some (.inr (12, [.int 0, .int 0, .int (2 : Int32), .int (2 : Int32), .ref n, .int 0, .ref (n + 1), .int 0, .ref (n + 2), .ref (n + 3), .ref (n + 4), .ref (n + 5), .int 0, .ref (n + 6), .ref (n + 7), .int 0, .ref (n + 8), .ref (n + 9), .int 0, .ref (n + 10), .int 0, .ref (n + 11), .ref (n + 12), .null, .null, .null, .null, .null, .null, .null, .int 0, .int 0, .int 0, .int 0, .int 0, .null]))) (E28 : d28 = nm_X12_28 dh a n) {sk : List sm_Sh} {M M1 : sm_M} {fs9 : List (Option Nat)} (hdy : nm_X12_44 dh a n = nm_dy sk M) (hA : sk[a]? = some (.inr (12, fs9))) (hC : sm_Ct yX12_fill md_X12_fill 2 sk (.ref a :: []) M (.inl none) M1) : nm_J (md_X12_init, 4, 21, 43867, n, nm_dy sk M1) 127 [some (.ref a)] [] d28 13 42321 := by
  refine nm_aload_n (q := 128) d_X12_init_127 rfl rfl ?_
  refine nm_sipush (q := 131) (v := 240) d_X12_init_128 rfl (by decide) ?_
  refine nm_newarray (nc := 13) (ns := 42321) (q := 133) (n := (n + 13)) (N := 240) d_X12_init_131 rfl ac_0 (Or.inl ⟨rfl, rfl⟩) (by decide) (by decide) (Nat.le_of_ble_eq_true rfl) l28 rfl (Nat.succ_pos _) (Nat.le_of_ble_eq_true rfl) (Nat.le_of_ble_eq_true rfl) (fun d29 e29 => ?_)
  have l29 : d29.length = (n + 14) := nm_la e29 l28
  have t29 : d29[a]? = some (.inr (12, [.int 0, .int 0, .int (2 : Int32), .int (2 : Int32), .ref n, .int 0, .ref (n + 1), .int 0, .ref (n + 2), .ref (n + 3), .ref (n + 4), .ref (n + 5), .int 0, .ref (n + 6), .ref (n + 7), .int 0, .ref (n + 8), .ref (n + 9), .int 0, .ref (n + 10), .int 0, .ref (n + 11), .ref (n + 12), .null, .null, .null, .null, .null, .null, .null, .int 0, .int 0, .int 0, .int 0, .int 0, .null])) := by rw [e29]; exact nm_l1 t28
  have E29 : d29 = nm_X12_29 dh a n := by rw [e29, E28]; rfl
  refine nm_putF (q := 136) (fs1 := [.int 0, .int 0, .int (2 : Int32), .int (2 : Int32), .ref n, .int 0, .ref (n + 1), .int 0, .ref (n + 2), .ref (n + 3), .ref (n + 4), .ref (n + 5), .int 0, .ref (n + 6), .ref (n + 7), .int 0, .ref (n + 8), .ref (n + 9), .int 0, .ref (n + 10), .int 0, .ref (n + 11), .ref (n + 12), .ref (n + 13), .null, .null, .null, .null, .null, .null, .int 0, .int 0, .int 0, .int 0, .int 0, .null]) d_X12_init_133 rfl ff_X12_62 t29 (Nat.le_of_ble_eq_true rfl) (fun _ => ⟨rfl, rfl⟩) rfl (fun d30 e30 => ?_)
  have l30 : d30.length = (n + 14) := nm_ls e30 l29
  have t30 : d30[a]? = some (.inr (12, [.int 0, .int 0, .int (2 : Int32), .int (2 : Int32), .ref n, .int 0, .ref (n + 1), .int 0, .ref (n + 2), .ref (n + 3), .ref (n + 4), .ref (n + 5), .int 0, .ref (n + 6), .ref (n + 7), .int 0, .ref (n + 8), .ref (n + 9), .int 0, .ref (n + 10), .int 0, .ref (n + 11), .ref (n + 12), .ref (n + 13), .null, .null, .null, .null, .null, .null, .int 0, .int 0, .int 0, .int 0, .int 0, .null])) := by rw [e30]; exact nm_l2 t29
  have E30 : d30 = nm_X12_30 dh a n := by rw [e30, E29]; rfl
  exact cN_X12_p16 han hp l30 t30 E30 hdy hA hC
set_option maxRecDepth 100000 in
set_option maxHeartbeats 1000000 in
theorem cN_X12_p14 {dh d26 : List nm_E} {a n : Nat} (han : a < n) (hp : 0 < n) (l26 : d26.length = (n + 12)) (t26 : d26[a]? = some (.inr (12, [.int 0, .int 0, .int (2 : Int32), .int (2 : Int32), .ref n, .int 0, .ref (n + 1), .int 0, .ref (n + 2), .ref (n + 3), .ref (n + 4), .ref (n + 5), .int 0, .ref (n + 6), .ref (n + 7), .int 0, .ref (n + 8), .ref (n + 9), .int 0, .ref (n + 10), .int 0, .ref (n + 11), .null, .null, .null, .null, .null, .null, .null, .null, .int 0, .int 0, .int 0, .int 0, .int 0, .null]))) (E26 : d26 = nm_X12_26 dh a n) {sk : List sm_Sh} {M M1 : sm_M} {fs9 : List (Option Nat)} (hdy : nm_X12_44 dh a n = nm_dy sk M) (hA : sk[a]? = some (.inr (12, fs9))) (hC : sm_Ct yX12_fill md_X12_fill 2 sk (.ref a :: []) M (.inl none) M1) : nm_J (md_X12_init, 4, 21, 43867, n, nm_dy sk M1) 118 [some (.ref a)] [] d26 12 42121 := by
  refine nm_aload_n (q := 119) d_X12_init_118 rfl rfl ?_
  refine nm_sipush (q := 122) (v := 200) d_X12_init_119 rfl (by decide) ?_
  refine nm_newarray (nc := 12) (ns := 42121) (q := 124) (n := (n + 12)) (N := 200) d_X12_init_122 rfl ac_2 (Or.inr (Or.inr (Or.inl ⟨rfl, rfl⟩))) (by decide) (by decide) (Nat.le_of_ble_eq_true rfl) l26 rfl (Nat.succ_pos _) (Nat.le_of_ble_eq_true rfl) (Nat.le_of_ble_eq_true rfl) (fun d27 e27 => ?_)
  have l27 : d27.length = (n + 13) := nm_la e27 l26
  have t27 : d27[a]? = some (.inr (12, [.int 0, .int 0, .int (2 : Int32), .int (2 : Int32), .ref n, .int 0, .ref (n + 1), .int 0, .ref (n + 2), .ref (n + 3), .ref (n + 4), .ref (n + 5), .int 0, .ref (n + 6), .ref (n + 7), .int 0, .ref (n + 8), .ref (n + 9), .int 0, .ref (n + 10), .int 0, .ref (n + 11), .null, .null, .null, .null, .null, .null, .null, .null, .int 0, .int 0, .int 0, .int 0, .int 0, .null])) := by rw [e27]; exact nm_l1 t26
  have E27 : d27 = nm_X12_27 dh a n := by rw [e27, E26]; rfl
  refine nm_putF (q := 127) (fs1 := [.int 0, .int 0, .int (2 : Int32), .int (2 : Int32), .ref n, .int 0, .ref (n + 1), .int 0, .ref (n + 2), .ref (n + 3), .ref (n + 4), .ref (n + 5), .int 0, .ref (n + 6), .ref (n + 7), .int 0, .ref (n + 8), .ref (n + 9), .int 0, .ref (n + 10), .int 0, .ref (n + 11), .ref (n + 12), .null, .null, .null, .null, .null, .null, .null, .int 0, .int 0, .int 0, .int 0, .int 0, .null]) d_X12_init_124 rfl ff_X12_58 t27 (Nat.le_of_ble_eq_true rfl) (fun _ => ⟨rfl, rfl⟩) rfl (fun d28 e28 => ?_)
  have l28 : d28.length = (n + 13) := nm_ls e28 l27
  have t28 : d28[a]? = some (.inr (12, [.int 0, .int 0, .int (2 : Int32), .int (2 : Int32), .ref n, .int 0, .ref (n + 1), .int 0, .ref (n + 2), .ref (n + 3), .ref (n + 4), .ref (n + 5), .int 0, .ref (n + 6), .ref (n + 7), .int 0, .ref (n + 8), .ref (n + 9), .int 0, .ref (n + 10), .int 0, .ref (n + 11), .ref (n + 12), .null, .null, .null, .null, .null, .null, .null, .int 0, .int 0, .int 0, .int 0, .int 0, .null])) := by rw [e28]; exact nm_l2 t27
  have E28 : d28 = nm_X12_28 dh a n := by rw [e28, E27]; rfl
  exact cN_X12_p15 han hp l28 t28 E28 hdy hA hC
set_option maxRecDepth 100000 in
set_option maxHeartbeats 1000000 in
theorem cN_X12_p13 {dh d24 : List nm_E} {a n : Nat} (han : a < n) (hp : 0 < n) (l24 : d24.length = (n + 11)) (t24 : d24[a]? = some (.inr (12, [.int 0, .int 0, .int (2 : Int32), .int (2 : Int32), .ref n, .int 0, .ref (n + 1), .int 0, .ref (n + 2), .ref (n + 3), .ref (n + 4), .ref (n + 5), .int 0, .ref (n + 6), .ref (n + 7), .int 0, .ref (n + 8), .ref (n + 9), .int 0, .ref (n + 10), .int 0, .null, .null, .null, .null, .null, .null, .null, .null, .null, .int 0, .int 0, .int 0, .int 0, .int 0, .null]))) (E24 : d24 = nm_X12_24 dh a n) {sk : List sm_Sh} {M M1 : sm_M} {fs9 : List (Option Nat)} (hdy : nm_X12_44 dh a n = nm_dy sk M) (hA : sk[a]? = some (.inr (12, fs9))) (hC : sm_Ct yX12_fill md_X12_fill 2 sk (.ref a :: []) M (.inl none) M1) : nm_J (md_X12_init, 4, 21, 43867, n, nm_dy sk M1) 111 [some (.ref a)] [] d24 11 42116 := by
  refine nm_aload_n (q := 112) d_X12_init_111 rfl rfl ?_
  refine nm_iconst (q := 113) (v := 5) d_X12_init_112 rfl (by decide) ?_
  refine nm_newarray (nc := 11) (ns := 42116) (q := 115) (n := (n + 11)) (N := 5) d_X12_init_113 rfl ac_0 (Or.inl ⟨rfl, rfl⟩) (by decide) (by decide) (Nat.le_of_ble_eq_true rfl) l24 rfl (Nat.succ_pos _) (Nat.le_of_ble_eq_true rfl) (Nat.le_of_ble_eq_true rfl) (fun d25 e25 => ?_)
  have l25 : d25.length = (n + 12) := nm_la e25 l24
  have t25 : d25[a]? = some (.inr (12, [.int 0, .int 0, .int (2 : Int32), .int (2 : Int32), .ref n, .int 0, .ref (n + 1), .int 0, .ref (n + 2), .ref (n + 3), .ref (n + 4), .ref (n + 5), .int 0, .ref (n + 6), .ref (n + 7), .int 0, .ref (n + 8), .ref (n + 9), .int 0, .ref (n + 10), .int 0, .null, .null, .null, .null, .null, .null, .null, .null, .null, .int 0, .int 0, .int 0, .int 0, .int 0, .null])) := by rw [e25]; exact nm_l1 t24
  have E25 : d25 = nm_X12_25 dh a n := by rw [e25, E24]; rfl
  refine nm_putF (q := 118) (fs1 := [.int 0, .int 0, .int (2 : Int32), .int (2 : Int32), .ref n, .int 0, .ref (n + 1), .int 0, .ref (n + 2), .ref (n + 3), .ref (n + 4), .ref (n + 5), .int 0, .ref (n + 6), .ref (n + 7), .int 0, .ref (n + 8), .ref (n + 9), .int 0, .ref (n + 10), .int 0, .ref (n + 11), .null, .null, .null, .null, .null, .null, .null, .null, .int 0, .int 0, .int 0, .int 0, .int 0, .null]) d_X12_init_115 rfl ff_X12_55 t25 (Nat.le_of_ble_eq_true rfl) (fun _ => ⟨rfl, rfl⟩) rfl (fun d26 e26 => ?_)
  have l26 : d26.length = (n + 12) := nm_ls e26 l25
  have t26 : d26[a]? = some (.inr (12, [.int 0, .int 0, .int (2 : Int32), .int (2 : Int32), .ref n, .int 0, .ref (n + 1), .int 0, .ref (n + 2), .ref (n + 3), .ref (n + 4), .ref (n + 5), .int 0, .ref (n + 6), .ref (n + 7), .int 0, .ref (n + 8), .ref (n + 9), .int 0, .ref (n + 10), .int 0, .ref (n + 11), .null, .null, .null, .null, .null, .null, .null, .null, .int 0, .int 0, .int 0, .int 0, .int 0, .null])) := by rw [e26]; exact nm_l2 t25
  have E26 : d26 = nm_X12_26 dh a n := by rw [e26, E25]; rfl
  exact cN_X12_p14 han hp l26 t26 E26 hdy hA hC
set_option maxRecDepth 100000 in
set_option maxHeartbeats 1000000 in
theorem cN_X12_p12 {dh d22 : List nm_E} {a n : Nat} (han : a < n) (hp : 0 < n) (l22 : d22.length = (n + 10)) (t22 : d22[a]? = some (.inr (12, [.int 0, .int 0, .int (2 : Int32), .int (2 : Int32), .ref n, .int 0, .ref (n + 1), .int 0, .ref (n + 2), .ref (n + 3), .ref (n + 4), .ref (n + 5), .int 0, .ref (n + 6), .ref (n + 7), .int 0, .ref (n + 8), .ref (n + 9), .int 0, .null, .int 0, .null, .null, .null, .null, .null, .null, .null, .null, .null, .int 0, .int 0, .int 0, .int 0, .int 0, .null]))) (E22 : d22 = nm_X12_22 dh a n) {sk : List sm_Sh} {M M1 : sm_M} {fs9 : List (Option Nat)} (hdy : nm_X12_44 dh a n = nm_dy sk M) (hA : sk[a]? = some (.inr (12, fs9))) (hC : sm_Ct yX12_fill md_X12_fill 2 sk (.ref a :: []) M (.inl none) M1) : nm_J (md_X12_init, 4, 21, 43867, n, nm_dy sk M1) 102 [some (.ref a)] [] d22 10 41876 := by
  refine nm_aload_n (q := 103) d_X12_init_102 rfl rfl ?_
  refine nm_sipush (q := 106) (v := 240) d_X12_init_103 rfl (by decide) ?_
  refine nm_newarray (nc := 10) (ns := 41876) (q := 108) (n := (n + 10)) (N := 240) d_X12_init_106 rfl ac_1 (Or.inr (Or.inl ⟨rfl, rfl⟩)) (by decide) (by decide) (Nat.le_of_ble_eq_true rfl) l22 rfl (Nat.succ_pos _) (Nat.le_of_ble_eq_true rfl) (Nat.le_of_ble_eq_true rfl) (fun d23 e23 => ?_)
  have l23 : d23.length = (n + 11) := nm_la e23 l22
  have t23 : d23[a]? = some (.inr (12, [.int 0, .int 0, .int (2 : Int32), .int (2 : Int32), .ref n, .int 0, .ref (n + 1), .int 0, .ref (n + 2), .ref (n + 3), .ref (n + 4), .ref (n + 5), .int 0, .ref (n + 6), .ref (n + 7), .int 0, .ref (n + 8), .ref (n + 9), .int 0, .null, .int 0, .null, .null, .null, .null, .null, .null, .null, .null, .null, .int 0, .int 0, .int 0, .int 0, .int 0, .null])) := by rw [e23]; exact nm_l1 t22
  have E23 : d23 = nm_X12_23 dh a n := by rw [e23, E22]; rfl
  refine nm_putF (q := 111) (fs1 := [.int 0, .int 0, .int (2 : Int32), .int (2 : Int32), .ref n, .int 0, .ref (n + 1), .int 0, .ref (n + 2), .ref (n + 3), .ref (n + 4), .ref (n + 5), .int 0, .ref (n + 6), .ref (n + 7), .int 0, .ref (n + 8), .ref (n + 9), .int 0, .ref (n + 10), .int 0, .null, .null, .null, .null, .null, .null, .null, .null, .null, .int 0, .int 0, .int 0, .int 0, .int 0, .null]) d_X12_init_108 rfl ff_X12_52 t23 (Nat.le_of_ble_eq_true rfl) (fun _ => ⟨rfl, rfl⟩) rfl (fun d24 e24 => ?_)
  have l24 : d24.length = (n + 11) := nm_ls e24 l23
  have t24 : d24[a]? = some (.inr (12, [.int 0, .int 0, .int (2 : Int32), .int (2 : Int32), .ref n, .int 0, .ref (n + 1), .int 0, .ref (n + 2), .ref (n + 3), .ref (n + 4), .ref (n + 5), .int 0, .ref (n + 6), .ref (n + 7), .int 0, .ref (n + 8), .ref (n + 9), .int 0, .ref (n + 10), .int 0, .null, .null, .null, .null, .null, .null, .null, .null, .null, .int 0, .int 0, .int 0, .int 0, .int 0, .null])) := by rw [e24]; exact nm_l2 t23
  have E24 : d24 = nm_X12_24 dh a n := by rw [e24, E23]; rfl
  exact cN_X12_p13 han hp l24 t24 E24 hdy hA hC
set_option maxRecDepth 100000 in
set_option maxHeartbeats 1000000 in
theorem cN_X12_p11 {dh d20 : List nm_E} {a n : Nat} (han : a < n) (hp : 0 < n) (l20 : d20.length = (n + 9)) (t20 : d20[a]? = some (.inr (12, [.int 0, .int 0, .int (2 : Int32), .int (2 : Int32), .ref n, .int 0, .ref (n + 1), .int 0, .ref (n + 2), .ref (n + 3), .ref (n + 4), .ref (n + 5), .int 0, .ref (n + 6), .ref (n + 7), .int 0, .ref (n + 8), .null, .int 0, .null, .int 0, .null, .null, .null, .null, .null, .null, .null, .null, .null, .int 0, .int 0, .int 0, .int 0, .int 0, .null]))) (E20 : d20 = nm_X12_20 dh a n) {sk : List sm_Sh} {M M1 : sm_M} {fs9 : List (Option Nat)} (hdy : nm_X12_44 dh a n = nm_dy sk M) (hA : sk[a]? = some (.inr (12, fs9))) (hC : sm_Ct yX12_fill md_X12_fill 2 sk (.ref a :: []) M (.inl none) M1) : nm_J (md_X12_init, 4, 21, 43867, n, nm_dy sk M1) 93 [some (.ref a)] [] d20 9 41636 := by
  refine nm_aload_n (q := 94) d_X12_init_93 rfl rfl ?_
  refine nm_sipush (q := 97) (v := 240) d_X12_init_94 rfl (by decide) ?_
  refine nm_newarray (nc := 9) (ns := 41636) (q := 99) (n := (n + 9)) (N := 240) d_X12_init_97 rfl ac_1 (Or.inr (Or.inl ⟨rfl, rfl⟩)) (by decide) (by decide) (Nat.le_of_ble_eq_true rfl) l20 rfl (Nat.succ_pos _) (Nat.le_of_ble_eq_true rfl) (Nat.le_of_ble_eq_true rfl) (fun d21 e21 => ?_)
  have l21 : d21.length = (n + 10) := nm_la e21 l20
  have t21 : d21[a]? = some (.inr (12, [.int 0, .int 0, .int (2 : Int32), .int (2 : Int32), .ref n, .int 0, .ref (n + 1), .int 0, .ref (n + 2), .ref (n + 3), .ref (n + 4), .ref (n + 5), .int 0, .ref (n + 6), .ref (n + 7), .int 0, .ref (n + 8), .null, .int 0, .null, .int 0, .null, .null, .null, .null, .null, .null, .null, .null, .null, .int 0, .int 0, .int 0, .int 0, .int 0, .null])) := by rw [e21]; exact nm_l1 t20
  have E21 : d21 = nm_X12_21 dh a n := by rw [e21, E20]; rfl
  refine nm_putF (q := 102) (fs1 := [.int 0, .int 0, .int (2 : Int32), .int (2 : Int32), .ref n, .int 0, .ref (n + 1), .int 0, .ref (n + 2), .ref (n + 3), .ref (n + 4), .ref (n + 5), .int 0, .ref (n + 6), .ref (n + 7), .int 0, .ref (n + 8), .ref (n + 9), .int 0, .null, .int 0, .null, .null, .null, .null, .null, .null, .null, .null, .null, .int 0, .int 0, .int 0, .int 0, .int 0, .null]) d_X12_init_99 rfl ff_X12_48 t21 (Nat.le_of_ble_eq_true rfl) (fun _ => ⟨rfl, rfl⟩) rfl (fun d22 e22 => ?_)
  have l22 : d22.length = (n + 10) := nm_ls e22 l21
  have t22 : d22[a]? = some (.inr (12, [.int 0, .int 0, .int (2 : Int32), .int (2 : Int32), .ref n, .int 0, .ref (n + 1), .int 0, .ref (n + 2), .ref (n + 3), .ref (n + 4), .ref (n + 5), .int 0, .ref (n + 6), .ref (n + 7), .int 0, .ref (n + 8), .ref (n + 9), .int 0, .null, .int 0, .null, .null, .null, .null, .null, .null, .null, .null, .null, .int 0, .int 0, .int 0, .int 0, .int 0, .null])) := by rw [e22]; exact nm_l2 t21
  have E22 : d22 = nm_X12_22 dh a n := by rw [e22, E21]; rfl
  exact cN_X12_p12 han hp l22 t22 E22 hdy hA hC
set_option maxRecDepth 100000 in
set_option maxHeartbeats 1000000 in
theorem cN_X12_p10 {dh d18 : List nm_E} {a n : Nat} (han : a < n) (hp : 0 < n) (l18 : d18.length = (n + 8)) (t18 : d18[a]? = some (.inr (12, [.int 0, .int 0, .int (2 : Int32), .int (2 : Int32), .ref n, .int 0, .ref (n + 1), .int 0, .ref (n + 2), .ref (n + 3), .ref (n + 4), .ref (n + 5), .int 0, .ref (n + 6), .ref (n + 7), .int 0, .null, .null, .int 0, .null, .int 0, .null, .null, .null, .null, .null, .null, .null, .null, .null, .int 0, .int 0, .int 0, .int 0, .int 0, .null]))) (E18 : d18 = nm_X12_18 dh a n) {sk : List sm_Sh} {M M1 : sm_M} {fs9 : List (Option Nat)} (hdy : nm_X12_44 dh a n = nm_dy sk M) (hA : sk[a]? = some (.inr (12, fs9))) (hC : sm_Ct yX12_fill md_X12_fill 2 sk (.ref a :: []) M (.inl none) M1) : nm_J (md_X12_init, 4, 21, 43867, n, nm_dy sk M1) 84 [some (.ref a)] [] d18 8 41396 := by
  refine nm_aload_n (q := 85) d_X12_init_84 rfl rfl ?_
  refine nm_sipush (q := 88) (v := 240) d_X12_init_85 rfl (by decide) ?_
  refine nm_newarray (nc := 8) (ns := 41396) (q := 90) (n := (n + 8)) (N := 240) d_X12_init_88 rfl ac_0 (Or.inl ⟨rfl, rfl⟩) (by decide) (by decide) (Nat.le_of_ble_eq_true rfl) l18 rfl (Nat.succ_pos _) (Nat.le_of_ble_eq_true rfl) (Nat.le_of_ble_eq_true rfl) (fun d19 e19 => ?_)
  have l19 : d19.length = (n + 9) := nm_la e19 l18
  have t19 : d19[a]? = some (.inr (12, [.int 0, .int 0, .int (2 : Int32), .int (2 : Int32), .ref n, .int 0, .ref (n + 1), .int 0, .ref (n + 2), .ref (n + 3), .ref (n + 4), .ref (n + 5), .int 0, .ref (n + 6), .ref (n + 7), .int 0, .null, .null, .int 0, .null, .int 0, .null, .null, .null, .null, .null, .null, .null, .null, .null, .int 0, .int 0, .int 0, .int 0, .int 0, .null])) := by rw [e19]; exact nm_l1 t18
  have E19 : d19 = nm_X12_19 dh a n := by rw [e19, E18]; rfl
  refine nm_putF (q := 93) (fs1 := [.int 0, .int 0, .int (2 : Int32), .int (2 : Int32), .ref n, .int 0, .ref (n + 1), .int 0, .ref (n + 2), .ref (n + 3), .ref (n + 4), .ref (n + 5), .int 0, .ref (n + 6), .ref (n + 7), .int 0, .ref (n + 8), .null, .int 0, .null, .int 0, .null, .null, .null, .null, .null, .null, .null, .null, .null, .int 0, .int 0, .int 0, .int 0, .int 0, .null]) d_X12_init_90 rfl ff_X12_45 t19 (Nat.le_of_ble_eq_true rfl) (fun _ => ⟨rfl, rfl⟩) rfl (fun d20 e20 => ?_)
  have l20 : d20.length = (n + 9) := nm_ls e20 l19
  have t20 : d20[a]? = some (.inr (12, [.int 0, .int 0, .int (2 : Int32), .int (2 : Int32), .ref n, .int 0, .ref (n + 1), .int 0, .ref (n + 2), .ref (n + 3), .ref (n + 4), .ref (n + 5), .int 0, .ref (n + 6), .ref (n + 7), .int 0, .ref (n + 8), .null, .int 0, .null, .int 0, .null, .null, .null, .null, .null, .null, .null, .null, .null, .int 0, .int 0, .int 0, .int 0, .int 0, .null])) := by rw [e20]; exact nm_l2 t19
  have E20 : d20 = nm_X12_20 dh a n := by rw [e20, E19]; rfl
  exact cN_X12_p11 han hp l20 t20 E20 hdy hA hC
set_option maxRecDepth 100000 in
set_option maxHeartbeats 1000000 in
theorem cN_X12_p9 {dh d16 : List nm_E} {a n : Nat} (han : a < n) (hp : 0 < n) (l16 : d16.length = (n + 7)) (t16 : d16[a]? = some (.inr (12, [.int 0, .int 0, .int (2 : Int32), .int (2 : Int32), .ref n, .int 0, .ref (n + 1), .int 0, .ref (n + 2), .ref (n + 3), .ref (n + 4), .ref (n + 5), .int 0, .ref (n + 6), .null, .int 0, .null, .null, .int 0, .null, .int 0, .null, .null, .null, .null, .null, .null, .null, .null, .null, .int 0, .int 0, .int 0, .int 0, .int 0, .null]))) (E16 : d16 = nm_X12_16 dh a n) {sk : List sm_Sh} {M M1 : sm_M} {fs9 : List (Option Nat)} (hdy : nm_X12_44 dh a n = nm_dy sk M) (hA : sk[a]? = some (.inr (12, fs9))) (hC : sm_Ct yX12_fill md_X12_fill 2 sk (.ref a :: []) M (.inl none) M1) : nm_J (md_X12_init, 4, 21, 43867, n, nm_dy sk M1) 76 [some (.ref a)] [] d16 7 41384 := by
  refine nm_aload_n (q := 77) d_X12_init_76 rfl rfl ?_
  refine nm_bipush (q := 79) (v := 12) d_X12_init_77 rfl (by decide) ?_
  refine nm_newarray (nc := 7) (ns := 41384) (q := 81) (n := (n + 7)) (N := 12) d_X12_init_79 rfl ac_0 (Or.inl ⟨rfl, rfl⟩) (by decide) (by decide) (Nat.le_of_ble_eq_true rfl) l16 rfl (Nat.succ_pos _) (Nat.le_of_ble_eq_true rfl) (Nat.le_of_ble_eq_true rfl) (fun d17 e17 => ?_)
  have l17 : d17.length = (n + 8) := nm_la e17 l16
  have t17 : d17[a]? = some (.inr (12, [.int 0, .int 0, .int (2 : Int32), .int (2 : Int32), .ref n, .int 0, .ref (n + 1), .int 0, .ref (n + 2), .ref (n + 3), .ref (n + 4), .ref (n + 5), .int 0, .ref (n + 6), .null, .int 0, .null, .null, .int 0, .null, .int 0, .null, .null, .null, .null, .null, .null, .null, .null, .null, .int 0, .int 0, .int 0, .int 0, .int 0, .null])) := by rw [e17]; exact nm_l1 t16
  have E17 : d17 = nm_X12_17 dh a n := by rw [e17, E16]; rfl
  refine nm_putF (q := 84) (fs1 := [.int 0, .int 0, .int (2 : Int32), .int (2 : Int32), .ref n, .int 0, .ref (n + 1), .int 0, .ref (n + 2), .ref (n + 3), .ref (n + 4), .ref (n + 5), .int 0, .ref (n + 6), .ref (n + 7), .int 0, .null, .null, .int 0, .null, .int 0, .null, .null, .null, .null, .null, .null, .null, .null, .null, .int 0, .int 0, .int 0, .int 0, .int 0, .null]) d_X12_init_81 rfl ff_X12_42 t17 (Nat.le_of_ble_eq_true rfl) (fun _ => ⟨rfl, rfl⟩) rfl (fun d18 e18 => ?_)
  have l18 : d18.length = (n + 8) := nm_ls e18 l17
  have t18 : d18[a]? = some (.inr (12, [.int 0, .int 0, .int (2 : Int32), .int (2 : Int32), .ref n, .int 0, .ref (n + 1), .int 0, .ref (n + 2), .ref (n + 3), .ref (n + 4), .ref (n + 5), .int 0, .ref (n + 6), .ref (n + 7), .int 0, .null, .null, .int 0, .null, .int 0, .null, .null, .null, .null, .null, .null, .null, .null, .null, .int 0, .int 0, .int 0, .int 0, .int 0, .null])) := by rw [e18]; exact nm_l2 t17
  have E18 : d18 = nm_X12_18 dh a n := by rw [e18, E17]; rfl
  exact cN_X12_p10 han hp l18 t18 E18 hdy hA hC
set_option maxRecDepth 100000 in
set_option maxHeartbeats 1000000 in
theorem cN_X12_p8 {dh d14 : List nm_E} {a n : Nat} (han : a < n) (hp : 0 < n) (l14 : d14.length = (n + 6)) (t14 : d14[a]? = some (.inr (12, [.int 0, .int 0, .int (2 : Int32), .int (2 : Int32), .ref n, .int 0, .ref (n + 1), .int 0, .ref (n + 2), .ref (n + 3), .ref (n + 4), .ref (n + 5), .int 0, .null, .null, .int 0, .null, .null, .int 0, .null, .int 0, .null, .null, .null, .null, .null, .null, .null, .null, .null, .int 0, .int 0, .int 0, .int 0, .int 0, .null]))) (E14 : d14 = nm_X12_14 dh a n) {sk : List sm_Sh} {M M1 : sm_M} {fs9 : List (Option Nat)} (hdy : nm_X12_44 dh a n = nm_dy sk M) (hA : sk[a]? = some (.inr (12, fs9))) (hC : sm_Ct yX12_fill md_X12_fill 2 sk (.ref a :: []) M (.inl none) M1) : nm_J (md_X12_init, 4, 21, 43867, n, nm_dy sk M1) 67 [some (.ref a)] [] d14 6 38504 := by
  refine nm_aload_n (q := 68) d_X12_init_67 rfl rfl ?_
  refine nm_sipush (q := 71) (v := 2880) d_X12_init_68 rfl (by decide) ?_
  refine nm_newarray (nc := 6) (ns := 38504) (q := 73) (n := (n + 6)) (N := 2880) d_X12_init_71 rfl ac_0 (Or.inl ⟨rfl, rfl⟩) (by decide) (by decide) (Nat.le_of_ble_eq_true rfl) l14 rfl (Nat.succ_pos _) (Nat.le_of_ble_eq_true rfl) (Nat.le_of_ble_eq_true rfl) (fun d15 e15 => ?_)
  have l15 : d15.length = (n + 7) := nm_la e15 l14
  have t15 : d15[a]? = some (.inr (12, [.int 0, .int 0, .int (2 : Int32), .int (2 : Int32), .ref n, .int 0, .ref (n + 1), .int 0, .ref (n + 2), .ref (n + 3), .ref (n + 4), .ref (n + 5), .int 0, .null, .null, .int 0, .null, .null, .int 0, .null, .int 0, .null, .null, .null, .null, .null, .null, .null, .null, .null, .int 0, .int 0, .int 0, .int 0, .int 0, .null])) := by rw [e15]; exact nm_l1 t14
  have E15 : d15 = nm_X12_15 dh a n := by rw [e15, E14]; rfl
  refine nm_putF (q := 76) (fs1 := [.int 0, .int 0, .int (2 : Int32), .int (2 : Int32), .ref n, .int 0, .ref (n + 1), .int 0, .ref (n + 2), .ref (n + 3), .ref (n + 4), .ref (n + 5), .int 0, .ref (n + 6), .null, .int 0, .null, .null, .int 0, .null, .int 0, .null, .null, .null, .null, .null, .null, .null, .null, .null, .int 0, .int 0, .int 0, .int 0, .int 0, .null]) d_X12_init_73 rfl ff_X12_39 t15 (Nat.le_of_ble_eq_true rfl) (fun _ => ⟨rfl, rfl⟩) rfl (fun d16 e16 => ?_)
  have l16 : d16.length = (n + 7) := nm_ls e16 l15
  have t16 : d16[a]? = some (.inr (12, [.int 0, .int 0, .int (2 : Int32), .int (2 : Int32), .ref n, .int 0, .ref (n + 1), .int 0, .ref (n + 2), .ref (n + 3), .ref (n + 4), .ref (n + 5), .int 0, .ref (n + 6), .null, .int 0, .null, .null, .int 0, .null, .int 0, .null, .null, .null, .null, .null, .null, .null, .null, .null, .int 0, .int 0, .int 0, .int 0, .int 0, .null])) := by rw [e16]; exact nm_l2 t15
  have E16 : d16 = nm_X12_16 dh a n := by rw [e16, E15]; rfl
  exact cN_X12_p9 han hp l16 t16 E16 hdy hA hC
set_option maxRecDepth 100000 in
set_option maxHeartbeats 1000000 in
theorem cN_X12_p7 {dh d12 : List nm_E} {a n : Nat} (han : a < n) (hp : 0 < n) (l12 : d12.length = (n + 5)) (t12 : d12[a]? = some (.inr (12, [.int 0, .int 0, .int (2 : Int32), .int (2 : Int32), .ref n, .int 0, .ref (n + 1), .int 0, .ref (n + 2), .ref (n + 3), .ref (n + 4), .null, .int 0, .null, .null, .int 0, .null, .null, .int 0, .null, .int 0, .null, .null, .null, .null, .null, .null, .null, .null, .null, .int 0, .int 0, .int 0, .int 0, .int 0, .null]))) (E12 : d12 = nm_X12_12 dh a n) {sk : List sm_Sh} {M M1 : sm_M} {fs9 : List (Option Nat)} (hdy : nm_X12_44 dh a n = nm_dy sk M) (hA : sk[a]? = some (.inr (12, fs9))) (hC : sm_Ct yX12_fill md_X12_fill 2 sk (.ref a :: []) M (.inl none) M1) : nm_J (md_X12_init, 4, 21, 43867, n, nm_dy sk M1) 58 [some (.ref a)] [] d12 5 38264 := by
  refine nm_aload_n (q := 59) d_X12_init_58 rfl rfl ?_
  refine nm_sipush (q := 62) (v := 240) d_X12_init_59 rfl (by decide) ?_
  refine nm_newarray (nc := 5) (ns := 38264) (q := 64) (n := (n + 5)) (N := 240) d_X12_init_62 rfl ac_0 (Or.inl ⟨rfl, rfl⟩) (by decide) (by decide) (Nat.le_of_ble_eq_true rfl) l12 rfl (Nat.succ_pos _) (Nat.le_of_ble_eq_true rfl) (Nat.le_of_ble_eq_true rfl) (fun d13 e13 => ?_)
  have l13 : d13.length = (n + 6) := nm_la e13 l12
  have t13 : d13[a]? = some (.inr (12, [.int 0, .int 0, .int (2 : Int32), .int (2 : Int32), .ref n, .int 0, .ref (n + 1), .int 0, .ref (n + 2), .ref (n + 3), .ref (n + 4), .null, .int 0, .null, .null, .int 0, .null, .null, .int 0, .null, .int 0, .null, .null, .null, .null, .null, .null, .null, .null, .null, .int 0, .int 0, .int 0, .int 0, .int 0, .null])) := by rw [e13]; exact nm_l1 t12
  have E13 : d13 = nm_X12_13 dh a n := by rw [e13, E12]; rfl
  refine nm_putF (q := 67) (fs1 := [.int 0, .int 0, .int (2 : Int32), .int (2 : Int32), .ref n, .int 0, .ref (n + 1), .int 0, .ref (n + 2), .ref (n + 3), .ref (n + 4), .ref (n + 5), .int 0, .null, .null, .int 0, .null, .null, .int 0, .null, .int 0, .null, .null, .null, .null, .null, .null, .null, .null, .null, .int 0, .int 0, .int 0, .int 0, .int 0, .null]) d_X12_init_64 rfl ff_X12_36 t13 (Nat.le_of_ble_eq_true rfl) (fun _ => ⟨rfl, rfl⟩) rfl (fun d14 e14 => ?_)
  have l14 : d14.length = (n + 6) := nm_ls e14 l13
  have t14 : d14[a]? = some (.inr (12, [.int 0, .int 0, .int (2 : Int32), .int (2 : Int32), .ref n, .int 0, .ref (n + 1), .int 0, .ref (n + 2), .ref (n + 3), .ref (n + 4), .ref (n + 5), .int 0, .null, .null, .int 0, .null, .null, .int 0, .null, .int 0, .null, .null, .null, .null, .null, .null, .null, .null, .null, .int 0, .int 0, .int 0, .int 0, .int 0, .null])) := by rw [e14]; exact nm_l2 t13
  have E14 : d14 = nm_X12_14 dh a n := by rw [e14, E13]; rfl
  exact cN_X12_p8 han hp l14 t14 E14 hdy hA hC
set_option maxRecDepth 100000 in
set_option maxHeartbeats 1000000 in
theorem cN_X12_p6 {dh d10 : List nm_E} {a n : Nat} (han : a < n) (hp : 0 < n) (l10 : d10.length = (n + 4)) (t10 : d10[a]? = some (.inr (12, [.int 0, .int 0, .int (2 : Int32), .int (2 : Int32), .ref n, .int 0, .ref (n + 1), .int 0, .ref (n + 2), .ref (n + 3), .null, .null, .int 0, .null, .null, .int 0, .null, .null, .int 0, .null, .int 0, .null, .null, .null, .null, .null, .null, .null, .null, .null, .int 0, .int 0, .int 0, .int 0, .int 0, .null]))) (E10 : d10 = nm_X12_10 dh a n) {sk : List sm_Sh} {M M1 : sm_M} {fs9 : List (Option Nat)} (hdy : nm_X12_44 dh a n = nm_dy sk M) (hA : sk[a]? = some (.inr (12, fs9))) (hC : sm_Ct yX12_fill md_X12_fill 2 sk (.ref a :: []) M (.inl none) M1) : nm_J (md_X12_init, 4, 21, 43867, n, nm_dy sk M1) 49 [some (.ref a)] [] d10 4 38064 := by
  refine nm_aload_n (q := 50) d_X12_init_49 rfl rfl ?_
  refine nm_sipush (q := 53) (v := 200) d_X12_init_50 rfl (by decide) ?_
  refine nm_newarray (nc := 4) (ns := 38064) (q := 55) (n := (n + 4)) (N := 200) d_X12_init_53 rfl ac_0 (Or.inl ⟨rfl, rfl⟩) (by decide) (by decide) (Nat.le_of_ble_eq_true rfl) l10 rfl (Nat.succ_pos _) (Nat.le_of_ble_eq_true rfl) (Nat.le_of_ble_eq_true rfl) (fun d11 e11 => ?_)
  have l11 : d11.length = (n + 5) := nm_la e11 l10
  have t11 : d11[a]? = some (.inr (12, [.int 0, .int 0, .int (2 : Int32), .int (2 : Int32), .ref n, .int 0, .ref (n + 1), .int 0, .ref (n + 2), .ref (n + 3), .null, .null, .int 0, .null, .null, .int 0, .null, .null, .int 0, .null, .int 0, .null, .null, .null, .null, .null, .null, .null, .null, .null, .int 0, .int 0, .int 0, .int 0, .int 0, .null])) := by rw [e11]; exact nm_l1 t10
  have E11 : d11 = nm_X12_11 dh a n := by rw [e11, E10]; rfl
  refine nm_putF (q := 58) (fs1 := [.int 0, .int 0, .int (2 : Int32), .int (2 : Int32), .ref n, .int 0, .ref (n + 1), .int 0, .ref (n + 2), .ref (n + 3), .ref (n + 4), .null, .int 0, .null, .null, .int 0, .null, .null, .int 0, .null, .int 0, .null, .null, .null, .null, .null, .null, .null, .null, .null, .int 0, .int 0, .int 0, .int 0, .int 0, .null]) d_X12_init_55 rfl ff_X12_33 t11 (Nat.le_of_ble_eq_true rfl) (fun _ => ⟨rfl, rfl⟩) rfl (fun d12 e12 => ?_)
  have l12 : d12.length = (n + 5) := nm_ls e12 l11
  have t12 : d12[a]? = some (.inr (12, [.int 0, .int 0, .int (2 : Int32), .int (2 : Int32), .ref n, .int 0, .ref (n + 1), .int 0, .ref (n + 2), .ref (n + 3), .ref (n + 4), .null, .int 0, .null, .null, .int 0, .null, .null, .int 0, .null, .int 0, .null, .null, .null, .null, .null, .null, .null, .null, .null, .int 0, .int 0, .int 0, .int 0, .int 0, .null])) := by rw [e12]; exact nm_l2 t11
  have E12 : d12 = nm_X12_12 dh a n := by rw [e12, E11]; rfl
  exact cN_X12_p7 han hp l12 t12 E12 hdy hA hC
set_option maxRecDepth 100000 in
set_option maxHeartbeats 1000000 in
theorem cN_X12_p5 {dh d8 : List nm_E} {a n : Nat} (han : a < n) (hp : 0 < n) (l8 : d8.length = (n + 3)) (t8 : d8[a]? = some (.inr (12, [.int 0, .int 0, .int (2 : Int32), .int (2 : Int32), .ref n, .int 0, .ref (n + 1), .int 0, .ref (n + 2), .null, .null, .null, .int 0, .null, .null, .int 0, .null, .null, .int 0, .null, .int 0, .null, .null, .null, .null, .null, .null, .null, .null, .null, .int 0, .int 0, .int 0, .int 0, .int 0, .null]))) (E8 : d8 = nm_X12_8 dh a n) {sk : List sm_Sh} {M M1 : sm_M} {fs9 : List (Option Nat)} (hdy : nm_X12_44 dh a n = nm_dy sk M) (hA : sk[a]? = some (.inr (12, fs9))) (hC : sm_Ct yX12_fill md_X12_fill 2 sk (.ref a :: []) M (.inl none) M1) : nm_J (md_X12_init, 4, 21, 43867, n, nm_dy sk M1) 40 [some (.ref a)] [] d8 3 37864 := by
  refine nm_aload_n (q := 41) d_X12_init_40 rfl rfl ?_
  refine nm_sipush (q := 44) (v := 200) d_X12_init_41 rfl (by decide) ?_
  refine nm_newarray (nc := 3) (ns := 37864) (q := 46) (n := (n + 3)) (N := 200) d_X12_init_44 rfl ac_0 (Or.inl ⟨rfl, rfl⟩) (by decide) (by decide) (Nat.le_of_ble_eq_true rfl) l8 rfl (Nat.succ_pos _) (Nat.le_of_ble_eq_true rfl) (Nat.le_of_ble_eq_true rfl) (fun d9 e9 => ?_)
  have l9 : d9.length = (n + 4) := nm_la e9 l8
  have t9 : d9[a]? = some (.inr (12, [.int 0, .int 0, .int (2 : Int32), .int (2 : Int32), .ref n, .int 0, .ref (n + 1), .int 0, .ref (n + 2), .null, .null, .null, .int 0, .null, .null, .int 0, .null, .null, .int 0, .null, .int 0, .null, .null, .null, .null, .null, .null, .null, .null, .null, .int 0, .int 0, .int 0, .int 0, .int 0, .null])) := by rw [e9]; exact nm_l1 t8
  have E9 : d9 = nm_X12_9 dh a n := by rw [e9, E8]; rfl
  refine nm_putF (q := 49) (fs1 := [.int 0, .int 0, .int (2 : Int32), .int (2 : Int32), .ref n, .int 0, .ref (n + 1), .int 0, .ref (n + 2), .ref (n + 3), .null, .null, .int 0, .null, .null, .int 0, .null, .null, .int 0, .null, .int 0, .null, .null, .null, .null, .null, .null, .null, .null, .null, .int 0, .int 0, .int 0, .int 0, .int 0, .null]) d_X12_init_46 rfl ff_X12_30 t9 (Nat.le_of_ble_eq_true rfl) (fun _ => ⟨rfl, rfl⟩) rfl (fun d10 e10 => ?_)
  have l10 : d10.length = (n + 4) := nm_ls e10 l9
  have t10 : d10[a]? = some (.inr (12, [.int 0, .int 0, .int (2 : Int32), .int (2 : Int32), .ref n, .int 0, .ref (n + 1), .int 0, .ref (n + 2), .ref (n + 3), .null, .null, .int 0, .null, .null, .int 0, .null, .null, .int 0, .null, .int 0, .null, .null, .null, .null, .null, .null, .null, .null, .null, .int 0, .int 0, .int 0, .int 0, .int 0, .null])) := by rw [e10]; exact nm_l2 t9
  have E10 : d10 = nm_X12_10 dh a n := by rw [e10, E9]; rfl
  exact cN_X12_p6 han hp l10 t10 E10 hdy hA hC
set_option maxRecDepth 100000 in
set_option maxHeartbeats 1000000 in
theorem cN_X12_p4 {dh d6 : List nm_E} {a n : Nat} (han : a < n) (hp : 0 < n) (l6 : d6.length = (n + 2)) (t6 : d6[a]? = some (.inr (12, [.int 0, .int 0, .int (2 : Int32), .int (2 : Int32), .ref n, .int 0, .ref (n + 1), .int 0, .null, .null, .null, .null, .int 0, .null, .null, .int 0, .null, .null, .int 0, .null, .int 0, .null, .null, .null, .null, .null, .null, .null, .null, .null, .int 0, .int 0, .int 0, .int 0, .int 0, .null]))) (E6 : d6 = nm_X12_6 dh a n) {sk : List sm_Sh} {M M1 : sm_M} {fs9 : List (Option Nat)} (hdy : nm_X12_44 dh a n = nm_dy sk M) (hA : sk[a]? = some (.inr (12, fs9))) (hC : sm_Ct yX12_fill md_X12_fill 2 sk (.ref a :: []) M (.inl none) M1) : nm_J (md_X12_init, 4, 21, 43867, n, nm_dy sk M1) 31 [some (.ref a)] [] d6 2 33768 := by
  refine nm_aload_n (q := 32) d_X12_init_31 rfl rfl ?_
  refine nm_sipush (q := 35) (v := 4096) d_X12_init_32 rfl (by decide) ?_
  refine nm_newarray (nc := 2) (ns := 33768) (q := 37) (n := (n + 2)) (N := 4096) d_X12_init_35 rfl ac_0 (Or.inl ⟨rfl, rfl⟩) (by decide) (by decide) (Nat.le_of_ble_eq_true rfl) l6 rfl (Nat.succ_pos _) (Nat.le_of_ble_eq_true rfl) (Nat.le_of_ble_eq_true rfl) (fun d7 e7 => ?_)
  have l7 : d7.length = (n + 3) := nm_la e7 l6
  have t7 : d7[a]? = some (.inr (12, [.int 0, .int 0, .int (2 : Int32), .int (2 : Int32), .ref n, .int 0, .ref (n + 1), .int 0, .null, .null, .null, .null, .int 0, .null, .null, .int 0, .null, .null, .int 0, .null, .int 0, .null, .null, .null, .null, .null, .null, .null, .null, .null, .int 0, .int 0, .int 0, .int 0, .int 0, .null])) := by rw [e7]; exact nm_l1 t6
  have E7 : d7 = nm_X12_7 dh a n := by rw [e7, E6]; rfl
  refine nm_putF (q := 40) (fs1 := [.int 0, .int 0, .int (2 : Int32), .int (2 : Int32), .ref n, .int 0, .ref (n + 1), .int 0, .ref (n + 2), .null, .null, .null, .int 0, .null, .null, .int 0, .null, .null, .int 0, .null, .int 0, .null, .null, .null, .null, .null, .null, .null, .null, .null, .int 0, .int 0, .int 0, .int 0, .int 0, .null]) d_X12_init_37 rfl ff_X12_27 t7 (Nat.le_of_ble_eq_true rfl) (fun _ => ⟨rfl, rfl⟩) rfl (fun d8 e8 => ?_)
  have l8 : d8.length = (n + 3) := nm_ls e8 l7
  have t8 : d8[a]? = some (.inr (12, [.int 0, .int 0, .int (2 : Int32), .int (2 : Int32), .ref n, .int 0, .ref (n + 1), .int 0, .ref (n + 2), .null, .null, .null, .int 0, .null, .null, .int 0, .null, .null, .int 0, .null, .int 0, .null, .null, .null, .null, .null, .null, .null, .null, .null, .int 0, .int 0, .int 0, .int 0, .int 0, .null])) := by rw [e8]; exact nm_l2 t7
  have E8 : d8 = nm_X12_8 dh a n := by rw [e8, E7]; rfl
  exact cN_X12_p5 han hp l8 t8 E8 hdy hA hC
set_option maxRecDepth 100000 in
set_option maxHeartbeats 1000000 in
theorem cN_X12_p3 {dh d4 : List nm_E} {a n : Nat} (han : a < n) (hp : 0 < n) (l4 : d4.length = (n + 1)) (t4 : d4[a]? = some (.inr (12, [.int 0, .int 0, .int (2 : Int32), .int (2 : Int32), .ref n, .int 0, .null, .int 0, .null, .null, .null, .null, .int 0, .null, .null, .int 0, .null, .null, .int 0, .null, .int 0, .null, .null, .null, .null, .null, .null, .null, .null, .null, .int 0, .int 0, .int 0, .int 0, .int 0, .null]))) (E4 : d4 = nm_X12_4 dh a n) {sk : List sm_Sh} {M M1 : sm_M} {fs9 : List (Option Nat)} (hdy : nm_X12_44 dh a n = nm_dy sk M) (hA : sk[a]? = some (.inr (12, fs9))) (hC : sm_Ct yX12_fill md_X12_fill 2 sk (.ref a :: []) M (.inl none) M1) : nm_J (md_X12_init, 4, 21, 43867, n, nm_dy sk M1) 23 [some (.ref a)] [] d4 1 1000 := by
  refine nm_aload_n (q := 24) d_X12_init_23 rfl rfl ?_
  refine nm_ldc (q := 26) (v := 32768) d_X12_init_24 rfl cn_X12_23c ?_
  refine nm_newarray (nc := 1) (ns := 1000) (q := 28) (n := (n + 1)) (N := 32768) d_X12_init_26 rfl ac_0 (Or.inl ⟨rfl, rfl⟩) (by decide) (by decide) (Nat.le_of_ble_eq_true rfl) l4 rfl (Nat.succ_pos _) (Nat.le_of_ble_eq_true rfl) (Nat.le_of_ble_eq_true rfl) (fun d5 e5 => ?_)
  have l5 : d5.length = (n + 2) := nm_la e5 l4
  have t5 : d5[a]? = some (.inr (12, [.int 0, .int 0, .int (2 : Int32), .int (2 : Int32), .ref n, .int 0, .null, .int 0, .null, .null, .null, .null, .int 0, .null, .null, .int 0, .null, .null, .int 0, .null, .int 0, .null, .null, .null, .null, .null, .null, .null, .null, .null, .int 0, .int 0, .int 0, .int 0, .int 0, .null])) := by rw [e5]; exact nm_l1 t4
  have E5 : d5 = nm_X12_5 dh a n := by rw [e5, E4]; rfl
  refine nm_putF (q := 31) (fs1 := [.int 0, .int 0, .int (2 : Int32), .int (2 : Int32), .ref n, .int 0, .ref (n + 1), .int 0, .null, .null, .null, .null, .int 0, .null, .null, .int 0, .null, .null, .int 0, .null, .int 0, .null, .null, .null, .null, .null, .null, .null, .null, .null, .int 0, .int 0, .int 0, .int 0, .int 0, .null]) d_X12_init_28 rfl ff_X12_24 t5 (Nat.le_of_ble_eq_true rfl) (fun _ => ⟨rfl, rfl⟩) rfl (fun d6 e6 => ?_)
  have l6 : d6.length = (n + 2) := nm_ls e6 l5
  have t6 : d6[a]? = some (.inr (12, [.int 0, .int 0, .int (2 : Int32), .int (2 : Int32), .ref n, .int 0, .ref (n + 1), .int 0, .null, .null, .null, .null, .int 0, .null, .null, .int 0, .null, .null, .int 0, .null, .int 0, .null, .null, .null, .null, .null, .null, .null, .null, .null, .int 0, .int 0, .int 0, .int 0, .int 0, .null])) := by rw [e6]; exact nm_l2 t5
  have E6 : d6 = nm_X12_6 dh a n := by rw [e6, E5]; rfl
  exact cN_X12_p4 han hp l6 t6 E6 hdy hA hC
set_option maxRecDepth 100000 in
set_option maxHeartbeats 1000000 in
theorem cN_X12_p2 {dh d2 : List nm_E} {a n : Nat} (han : a < n) (hp : 0 < n) (l2 : d2.length = n) (t2 : d2[a]? = some (.inr (12, [.int 0, .int 0, .int (2 : Int32), .int (2 : Int32), .null, .int 0, .null, .int 0, .null, .null, .null, .null, .int 0, .null, .null, .int 0, .null, .null, .int 0, .null, .int 0, .null, .null, .null, .null, .null, .null, .null, .null, .null, .int 0, .int 0, .int 0, .int 0, .int 0, .null]))) (E2 : d2 = nm_X12_2 dh a n) {sk : List sm_Sh} {M M1 : sm_M} {fs9 : List (Option Nat)} (hdy : nm_X12_44 dh a n = nm_dy sk M) (hA : sk[a]? = some (.inr (12, fs9))) (hC : sm_Ct yX12_fill md_X12_fill 2 sk (.ref a :: []) M (.inl none) M1) : nm_J (md_X12_init, 4, 21, 43867, n, nm_dy sk M1) 14 [some (.ref a)] [] d2 0 0 := by
  refine nm_aload_n (q := 15) d_X12_init_14 rfl rfl ?_
  refine nm_sipush (q := 18) (v := 1000) d_X12_init_15 rfl (by decide) ?_
  refine nm_newarray (nc := 0) (ns := 0) (q := 20) (n := n) (N := 1000) d_X12_init_18 rfl ac_0 (Or.inl ⟨rfl, rfl⟩) (by decide) (by decide) (Nat.le_of_ble_eq_true rfl) l2 rfl hp (Nat.le_of_ble_eq_true rfl) (Nat.le_of_ble_eq_true rfl) (fun d3 e3 => ?_)
  have l3 : d3.length = (n + 1) := nm_la e3 l2
  have t3 : d3[a]? = some (.inr (12, [.int 0, .int 0, .int (2 : Int32), .int (2 : Int32), .null, .int 0, .null, .int 0, .null, .null, .null, .null, .int 0, .null, .null, .int 0, .null, .null, .int 0, .null, .int 0, .null, .null, .null, .null, .null, .null, .null, .null, .null, .int 0, .int 0, .int 0, .int 0, .int 0, .null])) := by rw [e3]; exact nm_l1 t2
  have E3 : d3 = nm_X12_3 dh a n := by rw [e3, E2]; rfl
  refine nm_putF (q := 23) (fs1 := [.int 0, .int 0, .int (2 : Int32), .int (2 : Int32), .ref n, .int 0, .null, .int 0, .null, .null, .null, .null, .int 0, .null, .null, .int 0, .null, .null, .int 0, .null, .int 0, .null, .null, .null, .null, .null, .null, .null, .null, .null, .int 0, .int 0, .int 0, .int 0, .int 0, .null]) d_X12_init_20 rfl ff_X12_19 t3 (Nat.le_of_ble_eq_true rfl) (fun _ => ⟨rfl, rfl⟩) rfl (fun d4 e4 => ?_)
  have l4 : d4.length = (n + 1) := nm_ls e4 l3
  have t4 : d4[a]? = some (.inr (12, [.int 0, .int 0, .int (2 : Int32), .int (2 : Int32), .ref n, .int 0, .null, .int 0, .null, .null, .null, .null, .int 0, .null, .null, .int 0, .null, .null, .int 0, .null, .int 0, .null, .null, .null, .null, .null, .null, .null, .null, .null, .int 0, .int 0, .int 0, .int 0, .int 0, .null])) := by rw [e4]; exact nm_l2 t3
  have E4 : d4 = nm_X12_4 dh a n := by rw [e4, E3]; rfl
  exact cN_X12_p3 han hp l4 t4 E4 hdy hA hC
set_option maxRecDepth 100000 in
set_option maxHeartbeats 1000000 in
theorem cN_X12_p1 {dh d1 : List nm_E} {a n : Nat} (han : a < n) (hp : 0 < n) (l1 : d1.length = n) (t1 : d1[a]? = some (.inr (12, [.int 0, .int 0, .int (2 : Int32), .int 0, .null, .int 0, .null, .int 0, .null, .null, .null, .null, .int 0, .null, .null, .int 0, .null, .null, .int 0, .null, .int 0, .null, .null, .null, .null, .null, .null, .null, .null, .null, .int 0, .int 0, .int 0, .int 0, .int 0, .null]))) (E1 : d1 = nm_X12_1 dh a n) {sk : List sm_Sh} {M M1 : sm_M} {fs9 : List (Option Nat)} (hdy : nm_X12_44 dh a n = nm_dy sk M) (hA : sk[a]? = some (.inr (12, fs9))) (hC : sm_Ct yX12_fill md_X12_fill 2 sk (.ref a :: []) M (.inl none) M1) : nm_J (md_X12_init, 4, 21, 43867, n, nm_dy sk M1) 9 [some (.ref a)] [] d1 0 0 := by
  refine nm_aload_n (q := 10) d_X12_init_9 rfl rfl ?_
  refine nm_iconst (q := 11) (v := 2) d_X12_init_10 rfl (by decide) ?_
  refine nm_puti (q := 14) (fs1 := [.int 0, .int 0, .int (2 : Int32), .int (2 : Int32), .null, .int 0, .null, .int 0, .null, .null, .null, .null, .int 0, .null, .null, .int 0, .null, .null, .int 0, .null, .int 0, .null, .null, .null, .null, .null, .null, .null, .null, .null, .int 0, .int 0, .int 0, .int 0, .int 0, .null]) d_X12_init_11 rfl fp_X12_16 t1 (Nat.le_of_ble_eq_true rfl) rfl rfl rfl (fun d2 e2 => ?_)
  have l2 : d2.length = n := nm_ls e2 l1
  have t2 : d2[a]? = some (.inr (12, [.int 0, .int 0, .int (2 : Int32), .int (2 : Int32), .null, .int 0, .null, .int 0, .null, .null, .null, .null, .int 0, .null, .null, .int 0, .null, .null, .int 0, .null, .int 0, .null, .null, .null, .null, .null, .null, .null, .null, .null, .int 0, .int 0, .int 0, .int 0, .int 0, .null])) := by rw [e2]; exact nm_l2 t1
  have E2 : d2 = nm_X12_2 dh a n := by rw [e2, E1]; rfl
  exact cN_X12_p2 han hp l2 t2 E2 hdy hA hC
set_option maxRecDepth 100000 in
set_option maxHeartbeats 1000000 in
theorem cN_X12 {dh : List nm_E} {a n : Nat} (hn : dh.length = n) (ha : dh[a]? = some (.inr (12, [.int 0, .int 0, .int 0, .int 0, .null, .int 0, .null, .int 0, .null, .null, .null, .null, .int 0, .null, .null, .int 0, .null, .null, .int 0, .null, .int 0, .null, .null, .null, .null, .null, .null, .null, .null, .null, .int 0, .int 0, .int 0, .int 0, .int 0, .null]))) {sk : List sm_Sh} {M M1 : sm_M} {fs9 : List (Option Nat)} (hdy : nm_X12_44 dh a n = nm_dy sk M) (hA : sk[a]? = some (.inr (12, fs9))) (hC : sm_Ct yX12_fill md_X12_fill 2 sk (.ref a :: []) M (.inl none) M1) : nm_Ct yX12_init md_X12_init 4 21 43867 [.ref a] dh (nm_dy sk M1) := by
  have han : a < n := by rw [← hn]; exact (List.getElem?_eq_some_iff.mp ha).1
  have hp : 0 < n := by omega
  refine nm_enter (ls0 := [some (.ref a)]) 0 pn_X12 rfl rfl rfl (by decide) rfl hn ?_
  refine nm_aload_n (q := 1) d_X12_init_0 rfl rfl ?_
  refine nm_objinit (q := 4) d_X12_init_1 rfl ol_X12 oi_1 oi_2 (Nat.le_of_ble_eq_true rfl) (Nat.le_of_ble_eq_true rfl) ?_
  refine nm_aload_n (q := 5) d_X12_init_4 rfl rfl ?_
  refine nm_iconst (q := 6) (v := 2) d_X12_init_5 rfl (by decide) ?_
  refine nm_puti (q := 9) (fs1 := [.int 0, .int 0, .int (2 : Int32), .int 0, .null, .int 0, .null, .int 0, .null, .null, .null, .null, .int 0, .null, .null, .int 0, .null, .null, .int 0, .null, .int 0, .null, .null, .null, .null, .null, .null, .null, .null, .null, .int 0, .int 0, .int 0, .int 0, .int 0, .null]) d_X12_init_6 rfl fp_X12_13 ha (Nat.le_of_ble_eq_true rfl) rfl rfl rfl (fun d1 e1 => ?_)
  have l1 : d1.length = n := nm_ls e1 hn
  have t1 : d1[a]? = some (.inr (12, [.int 0, .int 0, .int (2 : Int32), .int 0, .null, .int 0, .null, .int 0, .null, .null, .null, .null, .int 0, .null, .null, .int 0, .null, .null, .int 0, .null, .int 0, .null, .null, .null, .null, .null, .null, .null, .null, .null, .int 0, .int 0, .int 0, .int 0, .int 0, .null])) := by rw [e1]; exact nm_l2 ha
  have E1 : d1 = nm_X12_1 dh a n := by rw [e1]; rfl
  exact cN_X12_p1 han hp l1 t1 E1 hdy hA hC
/-! the class's maker and the reference's, at the places where the law makes them -/
def nm_z : sm_M := (fun _ _ => 0, fun _ _ => 0)
def nm_ini (M : sm_M) : sm_M := (fun a => if a < 80 then M.1 a else if a = 80 then (fun j => if j = 2 then 2 else if j = 3 then 2 else 0) else fun _ => 0, fun a => if a < 80 then M.2 a else fun _ => 0)
def nm_o11 : nm_E := .inr (11, [.null, .null, .null, .null, .null, .null, .null, .null, .null, .null, .int 0, .null, .int 0, .null, .int 0, .int 0, .int 0, .int 0])
def nm_o12 : nm_E := .inr (12, [.int 0, .int 0, .int 0, .int 0, .null, .int 0, .null, .int 0, .null, .null, .null, .null, .int 0, .null, .null, .int 0, .null, .null, .int 0, .null, .int 0, .null, .null, .null, .null, .null, .null, .null, .null, .null, .int 0, .int 0, .int 0, .int 0, .int 0, .null])
set_option maxRecDepth 1000000 in
set_option maxHeartbeats 4000000 in
theorem nm_e11 : nm_X11 [nm_o11] 0 1 = nm_dy skX nm_z := rfl
theorem nm_s80 {A l : List nm_E} {x y : nm_E} (h : A.length = 80) : (A ++ x :: l).set 80 y = A ++ y :: l := by
  rw [List.set_append_right _ _ (by omega), h]
  rfl
theorem ne_X12_1 {A : List nm_E} (h : A.length = 80) : nm_X12_1 (A ++ [nm_o12]) 80 81 = A ++ ([.inr (12, [.int 0, .int 0, .int (2 : Int32), .int 0, .null, .int 0, .null, .int 0, .null, .null, .null, .null, .int 0, .null, .null, .int 0, .null, .null, .int 0, .null, .int 0, .null, .null, .null, .null, .null, .null, .null, .null, .null, .int 0, .int 0, .int 0, .int 0, .int 0, .null])] : List nm_E) := by
  unfold nm_X12_1
  skip
  exact nm_s80 h
theorem ne_X12_2 {A : List nm_E} (h : A.length = 80) : nm_X12_2 (A ++ [nm_o12]) 80 81 = A ++ ([.inr (12, [.int 0, .int 0, .int (2 : Int32), .int (2 : Int32), .null, .int 0, .null, .int 0, .null, .null, .null, .null, .int 0, .null, .null, .int 0, .null, .null, .int 0, .null, .int 0, .null, .null, .null, .null, .null, .null, .null, .null, .null, .int 0, .int 0, .int 0, .int 0, .int 0, .null])] : List nm_E) := by
  unfold nm_X12_2
  rw [ne_X12_1 h]
  exact nm_s80 h
theorem ne_X12_3 {A : List nm_E} (h : A.length = 80) : nm_X12_3 (A ++ [nm_o12]) 80 81 = A ++ ([.inr (12, [.int 0, .int 0, .int (2 : Int32), .int (2 : Int32), .null, .int 0, .null, .int 0, .null, .null, .null, .null, .int 0, .null, .null, .int 0, .null, .null, .int 0, .null, .int 0, .null, .null, .null, .null, .null, .null, .null, .null, .null, .int 0, .int 0, .int 0, .int 0, .int 0, .null]), .inl (0, 1000, fun _ => 0, fun _ => 0, [])] : List nm_E) := by
  unfold nm_X12_3
  rw [ne_X12_2 h]
  rw [List.append_assoc]; rfl
theorem ne_X12_4 {A : List nm_E} (h : A.length = 80) : nm_X12_4 (A ++ [nm_o12]) 80 81 = A ++ ([.inr (12, [.int 0, .int 0, .int (2 : Int32), .int (2 : Int32), .ref 81, .int 0, .null, .int 0, .null, .null, .null, .null, .int 0, .null, .null, .int 0, .null, .null, .int 0, .null, .int 0, .null, .null, .null, .null, .null, .null, .null, .null, .null, .int 0, .int 0, .int 0, .int 0, .int 0, .null]), .inl (0, 1000, fun _ => 0, fun _ => 0, [])] : List nm_E) := by
  unfold nm_X12_4
  rw [ne_X12_3 h]
  exact nm_s80 h
theorem ne_X12_5 {A : List nm_E} (h : A.length = 80) : nm_X12_5 (A ++ [nm_o12]) 80 81 = A ++ ([.inr (12, [.int 0, .int 0, .int (2 : Int32), .int (2 : Int32), .ref 81, .int 0, .null, .int 0, .null, .null, .null, .null, .int 0, .null, .null, .int 0, .null, .null, .int 0, .null, .int 0, .null, .null, .null, .null, .null, .null, .null, .null, .null, .int 0, .int 0, .int 0, .int 0, .int 0, .null]), .inl (0, 1000, fun _ => 0, fun _ => 0, []), .inl (0, 32768, fun _ => 0, fun _ => 0, [])] : List nm_E) := by
  unfold nm_X12_5
  rw [ne_X12_4 h]
  rw [List.append_assoc]; rfl
theorem ne_X12_6 {A : List nm_E} (h : A.length = 80) : nm_X12_6 (A ++ [nm_o12]) 80 81 = A ++ ([.inr (12, [.int 0, .int 0, .int (2 : Int32), .int (2 : Int32), .ref 81, .int 0, .ref (81 + 1), .int 0, .null, .null, .null, .null, .int 0, .null, .null, .int 0, .null, .null, .int 0, .null, .int 0, .null, .null, .null, .null, .null, .null, .null, .null, .null, .int 0, .int 0, .int 0, .int 0, .int 0, .null]), .inl (0, 1000, fun _ => 0, fun _ => 0, []), .inl (0, 32768, fun _ => 0, fun _ => 0, [])] : List nm_E) := by
  unfold nm_X12_6
  rw [ne_X12_5 h]
  exact nm_s80 h
theorem ne_X12_7 {A : List nm_E} (h : A.length = 80) : nm_X12_7 (A ++ [nm_o12]) 80 81 = A ++ ([.inr (12, [.int 0, .int 0, .int (2 : Int32), .int (2 : Int32), .ref 81, .int 0, .ref (81 + 1), .int 0, .null, .null, .null, .null, .int 0, .null, .null, .int 0, .null, .null, .int 0, .null, .int 0, .null, .null, .null, .null, .null, .null, .null, .null, .null, .int 0, .int 0, .int 0, .int 0, .int 0, .null]), .inl (0, 1000, fun _ => 0, fun _ => 0, []), .inl (0, 32768, fun _ => 0, fun _ => 0, []), .inl (0, 4096, fun _ => 0, fun _ => 0, [])] : List nm_E) := by
  unfold nm_X12_7
  rw [ne_X12_6 h]
  rw [List.append_assoc]; rfl
theorem ne_X12_8 {A : List nm_E} (h : A.length = 80) : nm_X12_8 (A ++ [nm_o12]) 80 81 = A ++ ([.inr (12, [.int 0, .int 0, .int (2 : Int32), .int (2 : Int32), .ref 81, .int 0, .ref (81 + 1), .int 0, .ref (81 + 2), .null, .null, .null, .int 0, .null, .null, .int 0, .null, .null, .int 0, .null, .int 0, .null, .null, .null, .null, .null, .null, .null, .null, .null, .int 0, .int 0, .int 0, .int 0, .int 0, .null]), .inl (0, 1000, fun _ => 0, fun _ => 0, []), .inl (0, 32768, fun _ => 0, fun _ => 0, []), .inl (0, 4096, fun _ => 0, fun _ => 0, [])] : List nm_E) := by
  unfold nm_X12_8
  rw [ne_X12_7 h]
  exact nm_s80 h
theorem ne_X12_9 {A : List nm_E} (h : A.length = 80) : nm_X12_9 (A ++ [nm_o12]) 80 81 = A ++ ([.inr (12, [.int 0, .int 0, .int (2 : Int32), .int (2 : Int32), .ref 81, .int 0, .ref (81 + 1), .int 0, .ref (81 + 2), .null, .null, .null, .int 0, .null, .null, .int 0, .null, .null, .int 0, .null, .int 0, .null, .null, .null, .null, .null, .null, .null, .null, .null, .int 0, .int 0, .int 0, .int 0, .int 0, .null]), .inl (0, 1000, fun _ => 0, fun _ => 0, []), .inl (0, 32768, fun _ => 0, fun _ => 0, []), .inl (0, 4096, fun _ => 0, fun _ => 0, []), .inl (0, 200, fun _ => 0, fun _ => 0, [])] : List nm_E) := by
  unfold nm_X12_9
  rw [ne_X12_8 h]
  rw [List.append_assoc]; rfl
theorem ne_X12_10 {A : List nm_E} (h : A.length = 80) : nm_X12_10 (A ++ [nm_o12]) 80 81 = A ++ ([.inr (12, [.int 0, .int 0, .int (2 : Int32), .int (2 : Int32), .ref 81, .int 0, .ref (81 + 1), .int 0, .ref (81 + 2), .ref (81 + 3), .null, .null, .int 0, .null, .null, .int 0, .null, .null, .int 0, .null, .int 0, .null, .null, .null, .null, .null, .null, .null, .null, .null, .int 0, .int 0, .int 0, .int 0, .int 0, .null]), .inl (0, 1000, fun _ => 0, fun _ => 0, []), .inl (0, 32768, fun _ => 0, fun _ => 0, []), .inl (0, 4096, fun _ => 0, fun _ => 0, []), .inl (0, 200, fun _ => 0, fun _ => 0, [])] : List nm_E) := by
  unfold nm_X12_10
  rw [ne_X12_9 h]
  exact nm_s80 h
theorem ne_X12_11 {A : List nm_E} (h : A.length = 80) : nm_X12_11 (A ++ [nm_o12]) 80 81 = A ++ ([.inr (12, [.int 0, .int 0, .int (2 : Int32), .int (2 : Int32), .ref 81, .int 0, .ref (81 + 1), .int 0, .ref (81 + 2), .ref (81 + 3), .null, .null, .int 0, .null, .null, .int 0, .null, .null, .int 0, .null, .int 0, .null, .null, .null, .null, .null, .null, .null, .null, .null, .int 0, .int 0, .int 0, .int 0, .int 0, .null]), .inl (0, 1000, fun _ => 0, fun _ => 0, []), .inl (0, 32768, fun _ => 0, fun _ => 0, []), .inl (0, 4096, fun _ => 0, fun _ => 0, []), .inl (0, 200, fun _ => 0, fun _ => 0, []), .inl (0, 200, fun _ => 0, fun _ => 0, [])] : List nm_E) := by
  unfold nm_X12_11
  rw [ne_X12_10 h]
  rw [List.append_assoc]; rfl
theorem ne_X12_12 {A : List nm_E} (h : A.length = 80) : nm_X12_12 (A ++ [nm_o12]) 80 81 = A ++ ([.inr (12, [.int 0, .int 0, .int (2 : Int32), .int (2 : Int32), .ref 81, .int 0, .ref (81 + 1), .int 0, .ref (81 + 2), .ref (81 + 3), .ref (81 + 4), .null, .int 0, .null, .null, .int 0, .null, .null, .int 0, .null, .int 0, .null, .null, .null, .null, .null, .null, .null, .null, .null, .int 0, .int 0, .int 0, .int 0, .int 0, .null]), .inl (0, 1000, fun _ => 0, fun _ => 0, []), .inl (0, 32768, fun _ => 0, fun _ => 0, []), .inl (0, 4096, fun _ => 0, fun _ => 0, []), .inl (0, 200, fun _ => 0, fun _ => 0, []), .inl (0, 200, fun _ => 0, fun _ => 0, [])] : List nm_E) := by
  unfold nm_X12_12
  rw [ne_X12_11 h]
  exact nm_s80 h
theorem ne_X12_13 {A : List nm_E} (h : A.length = 80) : nm_X12_13 (A ++ [nm_o12]) 80 81 = A ++ ([.inr (12, [.int 0, .int 0, .int (2 : Int32), .int (2 : Int32), .ref 81, .int 0, .ref (81 + 1), .int 0, .ref (81 + 2), .ref (81 + 3), .ref (81 + 4), .null, .int 0, .null, .null, .int 0, .null, .null, .int 0, .null, .int 0, .null, .null, .null, .null, .null, .null, .null, .null, .null, .int 0, .int 0, .int 0, .int 0, .int 0, .null]), .inl (0, 1000, fun _ => 0, fun _ => 0, []), .inl (0, 32768, fun _ => 0, fun _ => 0, []), .inl (0, 4096, fun _ => 0, fun _ => 0, []), .inl (0, 200, fun _ => 0, fun _ => 0, []), .inl (0, 200, fun _ => 0, fun _ => 0, []), .inl (0, 240, fun _ => 0, fun _ => 0, [])] : List nm_E) := by
  unfold nm_X12_13
  rw [ne_X12_12 h]
  rw [List.append_assoc]; rfl
theorem ne_X12_14 {A : List nm_E} (h : A.length = 80) : nm_X12_14 (A ++ [nm_o12]) 80 81 = A ++ ([.inr (12, [.int 0, .int 0, .int (2 : Int32), .int (2 : Int32), .ref 81, .int 0, .ref (81 + 1), .int 0, .ref (81 + 2), .ref (81 + 3), .ref (81 + 4), .ref (81 + 5), .int 0, .null, .null, .int 0, .null, .null, .int 0, .null, .int 0, .null, .null, .null, .null, .null, .null, .null, .null, .null, .int 0, .int 0, .int 0, .int 0, .int 0, .null]), .inl (0, 1000, fun _ => 0, fun _ => 0, []), .inl (0, 32768, fun _ => 0, fun _ => 0, []), .inl (0, 4096, fun _ => 0, fun _ => 0, []), .inl (0, 200, fun _ => 0, fun _ => 0, []), .inl (0, 200, fun _ => 0, fun _ => 0, []), .inl (0, 240, fun _ => 0, fun _ => 0, [])] : List nm_E) := by
  unfold nm_X12_14
  rw [ne_X12_13 h]
  exact nm_s80 h
theorem ne_X12_15 {A : List nm_E} (h : A.length = 80) : nm_X12_15 (A ++ [nm_o12]) 80 81 = A ++ ([.inr (12, [.int 0, .int 0, .int (2 : Int32), .int (2 : Int32), .ref 81, .int 0, .ref (81 + 1), .int 0, .ref (81 + 2), .ref (81 + 3), .ref (81 + 4), .ref (81 + 5), .int 0, .null, .null, .int 0, .null, .null, .int 0, .null, .int 0, .null, .null, .null, .null, .null, .null, .null, .null, .null, .int 0, .int 0, .int 0, .int 0, .int 0, .null]), .inl (0, 1000, fun _ => 0, fun _ => 0, []), .inl (0, 32768, fun _ => 0, fun _ => 0, []), .inl (0, 4096, fun _ => 0, fun _ => 0, []), .inl (0, 200, fun _ => 0, fun _ => 0, []), .inl (0, 200, fun _ => 0, fun _ => 0, []), .inl (0, 240, fun _ => 0, fun _ => 0, []), .inl (0, 2880, fun _ => 0, fun _ => 0, [])] : List nm_E) := by
  unfold nm_X12_15
  rw [ne_X12_14 h]
  rw [List.append_assoc]; rfl
theorem ne_X12_16 {A : List nm_E} (h : A.length = 80) : nm_X12_16 (A ++ [nm_o12]) 80 81 = A ++ ([.inr (12, [.int 0, .int 0, .int (2 : Int32), .int (2 : Int32), .ref 81, .int 0, .ref (81 + 1), .int 0, .ref (81 + 2), .ref (81 + 3), .ref (81 + 4), .ref (81 + 5), .int 0, .ref (81 + 6), .null, .int 0, .null, .null, .int 0, .null, .int 0, .null, .null, .null, .null, .null, .null, .null, .null, .null, .int 0, .int 0, .int 0, .int 0, .int 0, .null]), .inl (0, 1000, fun _ => 0, fun _ => 0, []), .inl (0, 32768, fun _ => 0, fun _ => 0, []), .inl (0, 4096, fun _ => 0, fun _ => 0, []), .inl (0, 200, fun _ => 0, fun _ => 0, []), .inl (0, 200, fun _ => 0, fun _ => 0, []), .inl (0, 240, fun _ => 0, fun _ => 0, []), .inl (0, 2880, fun _ => 0, fun _ => 0, [])] : List nm_E) := by
  unfold nm_X12_16
  rw [ne_X12_15 h]
  exact nm_s80 h
theorem ne_X12_17 {A : List nm_E} (h : A.length = 80) : nm_X12_17 (A ++ [nm_o12]) 80 81 = A ++ ([.inr (12, [.int 0, .int 0, .int (2 : Int32), .int (2 : Int32), .ref 81, .int 0, .ref (81 + 1), .int 0, .ref (81 + 2), .ref (81 + 3), .ref (81 + 4), .ref (81 + 5), .int 0, .ref (81 + 6), .null, .int 0, .null, .null, .int 0, .null, .int 0, .null, .null, .null, .null, .null, .null, .null, .null, .null, .int 0, .int 0, .int 0, .int 0, .int 0, .null]), .inl (0, 1000, fun _ => 0, fun _ => 0, []), .inl (0, 32768, fun _ => 0, fun _ => 0, []), .inl (0, 4096, fun _ => 0, fun _ => 0, []), .inl (0, 200, fun _ => 0, fun _ => 0, []), .inl (0, 200, fun _ => 0, fun _ => 0, []), .inl (0, 240, fun _ => 0, fun _ => 0, []), .inl (0, 2880, fun _ => 0, fun _ => 0, []), .inl (0, 12, fun _ => 0, fun _ => 0, [])] : List nm_E) := by
  unfold nm_X12_17
  rw [ne_X12_16 h]
  rw [List.append_assoc]; rfl
theorem ne_X12_18 {A : List nm_E} (h : A.length = 80) : nm_X12_18 (A ++ [nm_o12]) 80 81 = A ++ ([.inr (12, [.int 0, .int 0, .int (2 : Int32), .int (2 : Int32), .ref 81, .int 0, .ref (81 + 1), .int 0, .ref (81 + 2), .ref (81 + 3), .ref (81 + 4), .ref (81 + 5), .int 0, .ref (81 + 6), .ref (81 + 7), .int 0, .null, .null, .int 0, .null, .int 0, .null, .null, .null, .null, .null, .null, .null, .null, .null, .int 0, .int 0, .int 0, .int 0, .int 0, .null]), .inl (0, 1000, fun _ => 0, fun _ => 0, []), .inl (0, 32768, fun _ => 0, fun _ => 0, []), .inl (0, 4096, fun _ => 0, fun _ => 0, []), .inl (0, 200, fun _ => 0, fun _ => 0, []), .inl (0, 200, fun _ => 0, fun _ => 0, []), .inl (0, 240, fun _ => 0, fun _ => 0, []), .inl (0, 2880, fun _ => 0, fun _ => 0, []), .inl (0, 12, fun _ => 0, fun _ => 0, [])] : List nm_E) := by
  unfold nm_X12_18
  rw [ne_X12_17 h]
  exact nm_s80 h
theorem ne_X12_19 {A : List nm_E} (h : A.length = 80) : nm_X12_19 (A ++ [nm_o12]) 80 81 = A ++ ([.inr (12, [.int 0, .int 0, .int (2 : Int32), .int (2 : Int32), .ref 81, .int 0, .ref (81 + 1), .int 0, .ref (81 + 2), .ref (81 + 3), .ref (81 + 4), .ref (81 + 5), .int 0, .ref (81 + 6), .ref (81 + 7), .int 0, .null, .null, .int 0, .null, .int 0, .null, .null, .null, .null, .null, .null, .null, .null, .null, .int 0, .int 0, .int 0, .int 0, .int 0, .null]), .inl (0, 1000, fun _ => 0, fun _ => 0, []), .inl (0, 32768, fun _ => 0, fun _ => 0, []), .inl (0, 4096, fun _ => 0, fun _ => 0, []), .inl (0, 200, fun _ => 0, fun _ => 0, []), .inl (0, 200, fun _ => 0, fun _ => 0, []), .inl (0, 240, fun _ => 0, fun _ => 0, []), .inl (0, 2880, fun _ => 0, fun _ => 0, []), .inl (0, 12, fun _ => 0, fun _ => 0, []), .inl (0, 240, fun _ => 0, fun _ => 0, [])] : List nm_E) := by
  unfold nm_X12_19
  rw [ne_X12_18 h]
  rw [List.append_assoc]; rfl
theorem ne_X12_20 {A : List nm_E} (h : A.length = 80) : nm_X12_20 (A ++ [nm_o12]) 80 81 = A ++ ([.inr (12, [.int 0, .int 0, .int (2 : Int32), .int (2 : Int32), .ref 81, .int 0, .ref (81 + 1), .int 0, .ref (81 + 2), .ref (81 + 3), .ref (81 + 4), .ref (81 + 5), .int 0, .ref (81 + 6), .ref (81 + 7), .int 0, .ref (81 + 8), .null, .int 0, .null, .int 0, .null, .null, .null, .null, .null, .null, .null, .null, .null, .int 0, .int 0, .int 0, .int 0, .int 0, .null]), .inl (0, 1000, fun _ => 0, fun _ => 0, []), .inl (0, 32768, fun _ => 0, fun _ => 0, []), .inl (0, 4096, fun _ => 0, fun _ => 0, []), .inl (0, 200, fun _ => 0, fun _ => 0, []), .inl (0, 200, fun _ => 0, fun _ => 0, []), .inl (0, 240, fun _ => 0, fun _ => 0, []), .inl (0, 2880, fun _ => 0, fun _ => 0, []), .inl (0, 12, fun _ => 0, fun _ => 0, []), .inl (0, 240, fun _ => 0, fun _ => 0, [])] : List nm_E) := by
  unfold nm_X12_20
  rw [ne_X12_19 h]
  exact nm_s80 h
theorem ne_X12_21 {A : List nm_E} (h : A.length = 80) : nm_X12_21 (A ++ [nm_o12]) 80 81 = A ++ ([.inr (12, [.int 0, .int 0, .int (2 : Int32), .int (2 : Int32), .ref 81, .int 0, .ref (81 + 1), .int 0, .ref (81 + 2), .ref (81 + 3), .ref (81 + 4), .ref (81 + 5), .int 0, .ref (81 + 6), .ref (81 + 7), .int 0, .ref (81 + 8), .null, .int 0, .null, .int 0, .null, .null, .null, .null, .null, .null, .null, .null, .null, .int 0, .int 0, .int 0, .int 0, .int 0, .null]), .inl (0, 1000, fun _ => 0, fun _ => 0, []), .inl (0, 32768, fun _ => 0, fun _ => 0, []), .inl (0, 4096, fun _ => 0, fun _ => 0, []), .inl (0, 200, fun _ => 0, fun _ => 0, []), .inl (0, 200, fun _ => 0, fun _ => 0, []), .inl (0, 240, fun _ => 0, fun _ => 0, []), .inl (0, 2880, fun _ => 0, fun _ => 0, []), .inl (0, 12, fun _ => 0, fun _ => 0, []), .inl (0, 240, fun _ => 0, fun _ => 0, []), .inl (1, 240, fun _ => 0, fun _ => 0, [])] : List nm_E) := by
  unfold nm_X12_21
  rw [ne_X12_20 h]
  rw [List.append_assoc]; rfl
theorem ne_X12_22 {A : List nm_E} (h : A.length = 80) : nm_X12_22 (A ++ [nm_o12]) 80 81 = A ++ ([.inr (12, [.int 0, .int 0, .int (2 : Int32), .int (2 : Int32), .ref 81, .int 0, .ref (81 + 1), .int 0, .ref (81 + 2), .ref (81 + 3), .ref (81 + 4), .ref (81 + 5), .int 0, .ref (81 + 6), .ref (81 + 7), .int 0, .ref (81 + 8), .ref (81 + 9), .int 0, .null, .int 0, .null, .null, .null, .null, .null, .null, .null, .null, .null, .int 0, .int 0, .int 0, .int 0, .int 0, .null]), .inl (0, 1000, fun _ => 0, fun _ => 0, []), .inl (0, 32768, fun _ => 0, fun _ => 0, []), .inl (0, 4096, fun _ => 0, fun _ => 0, []), .inl (0, 200, fun _ => 0, fun _ => 0, []), .inl (0, 200, fun _ => 0, fun _ => 0, []), .inl (0, 240, fun _ => 0, fun _ => 0, []), .inl (0, 2880, fun _ => 0, fun _ => 0, []), .inl (0, 12, fun _ => 0, fun _ => 0, []), .inl (0, 240, fun _ => 0, fun _ => 0, []), .inl (1, 240, fun _ => 0, fun _ => 0, [])] : List nm_E) := by
  unfold nm_X12_22
  rw [ne_X12_21 h]
  exact nm_s80 h
theorem ne_X12_23 {A : List nm_E} (h : A.length = 80) : nm_X12_23 (A ++ [nm_o12]) 80 81 = A ++ ([.inr (12, [.int 0, .int 0, .int (2 : Int32), .int (2 : Int32), .ref 81, .int 0, .ref (81 + 1), .int 0, .ref (81 + 2), .ref (81 + 3), .ref (81 + 4), .ref (81 + 5), .int 0, .ref (81 + 6), .ref (81 + 7), .int 0, .ref (81 + 8), .ref (81 + 9), .int 0, .null, .int 0, .null, .null, .null, .null, .null, .null, .null, .null, .null, .int 0, .int 0, .int 0, .int 0, .int 0, .null]), .inl (0, 1000, fun _ => 0, fun _ => 0, []), .inl (0, 32768, fun _ => 0, fun _ => 0, []), .inl (0, 4096, fun _ => 0, fun _ => 0, []), .inl (0, 200, fun _ => 0, fun _ => 0, []), .inl (0, 200, fun _ => 0, fun _ => 0, []), .inl (0, 240, fun _ => 0, fun _ => 0, []), .inl (0, 2880, fun _ => 0, fun _ => 0, []), .inl (0, 12, fun _ => 0, fun _ => 0, []), .inl (0, 240, fun _ => 0, fun _ => 0, []), .inl (1, 240, fun _ => 0, fun _ => 0, []), .inl (1, 240, fun _ => 0, fun _ => 0, [])] : List nm_E) := by
  unfold nm_X12_23
  rw [ne_X12_22 h]
  rw [List.append_assoc]; rfl
theorem ne_X12_24 {A : List nm_E} (h : A.length = 80) : nm_X12_24 (A ++ [nm_o12]) 80 81 = A ++ ([.inr (12, [.int 0, .int 0, .int (2 : Int32), .int (2 : Int32), .ref 81, .int 0, .ref (81 + 1), .int 0, .ref (81 + 2), .ref (81 + 3), .ref (81 + 4), .ref (81 + 5), .int 0, .ref (81 + 6), .ref (81 + 7), .int 0, .ref (81 + 8), .ref (81 + 9), .int 0, .ref (81 + 10), .int 0, .null, .null, .null, .null, .null, .null, .null, .null, .null, .int 0, .int 0, .int 0, .int 0, .int 0, .null]), .inl (0, 1000, fun _ => 0, fun _ => 0, []), .inl (0, 32768, fun _ => 0, fun _ => 0, []), .inl (0, 4096, fun _ => 0, fun _ => 0, []), .inl (0, 200, fun _ => 0, fun _ => 0, []), .inl (0, 200, fun _ => 0, fun _ => 0, []), .inl (0, 240, fun _ => 0, fun _ => 0, []), .inl (0, 2880, fun _ => 0, fun _ => 0, []), .inl (0, 12, fun _ => 0, fun _ => 0, []), .inl (0, 240, fun _ => 0, fun _ => 0, []), .inl (1, 240, fun _ => 0, fun _ => 0, []), .inl (1, 240, fun _ => 0, fun _ => 0, [])] : List nm_E) := by
  unfold nm_X12_24
  rw [ne_X12_23 h]
  exact nm_s80 h
theorem ne_X12_25 {A : List nm_E} (h : A.length = 80) : nm_X12_25 (A ++ [nm_o12]) 80 81 = A ++ ([.inr (12, [.int 0, .int 0, .int (2 : Int32), .int (2 : Int32), .ref 81, .int 0, .ref (81 + 1), .int 0, .ref (81 + 2), .ref (81 + 3), .ref (81 + 4), .ref (81 + 5), .int 0, .ref (81 + 6), .ref (81 + 7), .int 0, .ref (81 + 8), .ref (81 + 9), .int 0, .ref (81 + 10), .int 0, .null, .null, .null, .null, .null, .null, .null, .null, .null, .int 0, .int 0, .int 0, .int 0, .int 0, .null]), .inl (0, 1000, fun _ => 0, fun _ => 0, []), .inl (0, 32768, fun _ => 0, fun _ => 0, []), .inl (0, 4096, fun _ => 0, fun _ => 0, []), .inl (0, 200, fun _ => 0, fun _ => 0, []), .inl (0, 200, fun _ => 0, fun _ => 0, []), .inl (0, 240, fun _ => 0, fun _ => 0, []), .inl (0, 2880, fun _ => 0, fun _ => 0, []), .inl (0, 12, fun _ => 0, fun _ => 0, []), .inl (0, 240, fun _ => 0, fun _ => 0, []), .inl (1, 240, fun _ => 0, fun _ => 0, []), .inl (1, 240, fun _ => 0, fun _ => 0, []), .inl (0, 5, fun _ => 0, fun _ => 0, [])] : List nm_E) := by
  unfold nm_X12_25
  rw [ne_X12_24 h]
  rw [List.append_assoc]; rfl
theorem ne_X12_26 {A : List nm_E} (h : A.length = 80) : nm_X12_26 (A ++ [nm_o12]) 80 81 = A ++ ([.inr (12, [.int 0, .int 0, .int (2 : Int32), .int (2 : Int32), .ref 81, .int 0, .ref (81 + 1), .int 0, .ref (81 + 2), .ref (81 + 3), .ref (81 + 4), .ref (81 + 5), .int 0, .ref (81 + 6), .ref (81 + 7), .int 0, .ref (81 + 8), .ref (81 + 9), .int 0, .ref (81 + 10), .int 0, .ref (81 + 11), .null, .null, .null, .null, .null, .null, .null, .null, .int 0, .int 0, .int 0, .int 0, .int 0, .null]), .inl (0, 1000, fun _ => 0, fun _ => 0, []), .inl (0, 32768, fun _ => 0, fun _ => 0, []), .inl (0, 4096, fun _ => 0, fun _ => 0, []), .inl (0, 200, fun _ => 0, fun _ => 0, []), .inl (0, 200, fun _ => 0, fun _ => 0, []), .inl (0, 240, fun _ => 0, fun _ => 0, []), .inl (0, 2880, fun _ => 0, fun _ => 0, []), .inl (0, 12, fun _ => 0, fun _ => 0, []), .inl (0, 240, fun _ => 0, fun _ => 0, []), .inl (1, 240, fun _ => 0, fun _ => 0, []), .inl (1, 240, fun _ => 0, fun _ => 0, []), .inl (0, 5, fun _ => 0, fun _ => 0, [])] : List nm_E) := by
  unfold nm_X12_26
  rw [ne_X12_25 h]
  exact nm_s80 h
theorem ne_X12_27 {A : List nm_E} (h : A.length = 80) : nm_X12_27 (A ++ [nm_o12]) 80 81 = A ++ ([.inr (12, [.int 0, .int 0, .int (2 : Int32), .int (2 : Int32), .ref 81, .int 0, .ref (81 + 1), .int 0, .ref (81 + 2), .ref (81 + 3), .ref (81 + 4), .ref (81 + 5), .int 0, .ref (81 + 6), .ref (81 + 7), .int 0, .ref (81 + 8), .ref (81 + 9), .int 0, .ref (81 + 10), .int 0, .ref (81 + 11), .null, .null, .null, .null, .null, .null, .null, .null, .int 0, .int 0, .int 0, .int 0, .int 0, .null]), .inl (0, 1000, fun _ => 0, fun _ => 0, []), .inl (0, 32768, fun _ => 0, fun _ => 0, []), .inl (0, 4096, fun _ => 0, fun _ => 0, []), .inl (0, 200, fun _ => 0, fun _ => 0, []), .inl (0, 200, fun _ => 0, fun _ => 0, []), .inl (0, 240, fun _ => 0, fun _ => 0, []), .inl (0, 2880, fun _ => 0, fun _ => 0, []), .inl (0, 12, fun _ => 0, fun _ => 0, []), .inl (0, 240, fun _ => 0, fun _ => 0, []), .inl (1, 240, fun _ => 0, fun _ => 0, []), .inl (1, 240, fun _ => 0, fun _ => 0, []), .inl (0, 5, fun _ => 0, fun _ => 0, []), .inl (2, 200, fun _ => 0, fun _ => 0, [])] : List nm_E) := by
  unfold nm_X12_27
  rw [ne_X12_26 h]
  rw [List.append_assoc]; rfl
theorem ne_X12_28 {A : List nm_E} (h : A.length = 80) : nm_X12_28 (A ++ [nm_o12]) 80 81 = A ++ ([.inr (12, [.int 0, .int 0, .int (2 : Int32), .int (2 : Int32), .ref 81, .int 0, .ref (81 + 1), .int 0, .ref (81 + 2), .ref (81 + 3), .ref (81 + 4), .ref (81 + 5), .int 0, .ref (81 + 6), .ref (81 + 7), .int 0, .ref (81 + 8), .ref (81 + 9), .int 0, .ref (81 + 10), .int 0, .ref (81 + 11), .ref (81 + 12), .null, .null, .null, .null, .null, .null, .null, .int 0, .int 0, .int 0, .int 0, .int 0, .null]), .inl (0, 1000, fun _ => 0, fun _ => 0, []), .inl (0, 32768, fun _ => 0, fun _ => 0, []), .inl (0, 4096, fun _ => 0, fun _ => 0, []), .inl (0, 200, fun _ => 0, fun _ => 0, []), .inl (0, 200, fun _ => 0, fun _ => 0, []), .inl (0, 240, fun _ => 0, fun _ => 0, []), .inl (0, 2880, fun _ => 0, fun _ => 0, []), .inl (0, 12, fun _ => 0, fun _ => 0, []), .inl (0, 240, fun _ => 0, fun _ => 0, []), .inl (1, 240, fun _ => 0, fun _ => 0, []), .inl (1, 240, fun _ => 0, fun _ => 0, []), .inl (0, 5, fun _ => 0, fun _ => 0, []), .inl (2, 200, fun _ => 0, fun _ => 0, [])] : List nm_E) := by
  unfold nm_X12_28
  rw [ne_X12_27 h]
  exact nm_s80 h
theorem ne_X12_29 {A : List nm_E} (h : A.length = 80) : nm_X12_29 (A ++ [nm_o12]) 80 81 = A ++ ([.inr (12, [.int 0, .int 0, .int (2 : Int32), .int (2 : Int32), .ref 81, .int 0, .ref (81 + 1), .int 0, .ref (81 + 2), .ref (81 + 3), .ref (81 + 4), .ref (81 + 5), .int 0, .ref (81 + 6), .ref (81 + 7), .int 0, .ref (81 + 8), .ref (81 + 9), .int 0, .ref (81 + 10), .int 0, .ref (81 + 11), .ref (81 + 12), .null, .null, .null, .null, .null, .null, .null, .int 0, .int 0, .int 0, .int 0, .int 0, .null]), .inl (0, 1000, fun _ => 0, fun _ => 0, []), .inl (0, 32768, fun _ => 0, fun _ => 0, []), .inl (0, 4096, fun _ => 0, fun _ => 0, []), .inl (0, 200, fun _ => 0, fun _ => 0, []), .inl (0, 200, fun _ => 0, fun _ => 0, []), .inl (0, 240, fun _ => 0, fun _ => 0, []), .inl (0, 2880, fun _ => 0, fun _ => 0, []), .inl (0, 12, fun _ => 0, fun _ => 0, []), .inl (0, 240, fun _ => 0, fun _ => 0, []), .inl (1, 240, fun _ => 0, fun _ => 0, []), .inl (1, 240, fun _ => 0, fun _ => 0, []), .inl (0, 5, fun _ => 0, fun _ => 0, []), .inl (2, 200, fun _ => 0, fun _ => 0, []), .inl (0, 240, fun _ => 0, fun _ => 0, [])] : List nm_E) := by
  unfold nm_X12_29
  rw [ne_X12_28 h]
  rw [List.append_assoc]; rfl
theorem ne_X12_30 {A : List nm_E} (h : A.length = 80) : nm_X12_30 (A ++ [nm_o12]) 80 81 = A ++ ([.inr (12, [.int 0, .int 0, .int (2 : Int32), .int (2 : Int32), .ref 81, .int 0, .ref (81 + 1), .int 0, .ref (81 + 2), .ref (81 + 3), .ref (81 + 4), .ref (81 + 5), .int 0, .ref (81 + 6), .ref (81 + 7), .int 0, .ref (81 + 8), .ref (81 + 9), .int 0, .ref (81 + 10), .int 0, .ref (81 + 11), .ref (81 + 12), .ref (81 + 13), .null, .null, .null, .null, .null, .null, .int 0, .int 0, .int 0, .int 0, .int 0, .null]), .inl (0, 1000, fun _ => 0, fun _ => 0, []), .inl (0, 32768, fun _ => 0, fun _ => 0, []), .inl (0, 4096, fun _ => 0, fun _ => 0, []), .inl (0, 200, fun _ => 0, fun _ => 0, []), .inl (0, 200, fun _ => 0, fun _ => 0, []), .inl (0, 240, fun _ => 0, fun _ => 0, []), .inl (0, 2880, fun _ => 0, fun _ => 0, []), .inl (0, 12, fun _ => 0, fun _ => 0, []), .inl (0, 240, fun _ => 0, fun _ => 0, []), .inl (1, 240, fun _ => 0, fun _ => 0, []), .inl (1, 240, fun _ => 0, fun _ => 0, []), .inl (0, 5, fun _ => 0, fun _ => 0, []), .inl (2, 200, fun _ => 0, fun _ => 0, []), .inl (0, 240, fun _ => 0, fun _ => 0, [])] : List nm_E) := by
  unfold nm_X12_30
  rw [ne_X12_29 h]
  exact nm_s80 h
theorem ne_X12_31 {A : List nm_E} (h : A.length = 80) : nm_X12_31 (A ++ [nm_o12]) 80 81 = A ++ ([.inr (12, [.int 0, .int 0, .int (2 : Int32), .int (2 : Int32), .ref 81, .int 0, .ref (81 + 1), .int 0, .ref (81 + 2), .ref (81 + 3), .ref (81 + 4), .ref (81 + 5), .int 0, .ref (81 + 6), .ref (81 + 7), .int 0, .ref (81 + 8), .ref (81 + 9), .int 0, .ref (81 + 10), .int 0, .ref (81 + 11), .ref (81 + 12), .ref (81 + 13), .null, .null, .null, .null, .null, .null, .int 0, .int 0, .int 0, .int 0, .int 0, .null]), .inl (0, 1000, fun _ => 0, fun _ => 0, []), .inl (0, 32768, fun _ => 0, fun _ => 0, []), .inl (0, 4096, fun _ => 0, fun _ => 0, []), .inl (0, 200, fun _ => 0, fun _ => 0, []), .inl (0, 200, fun _ => 0, fun _ => 0, []), .inl (0, 240, fun _ => 0, fun _ => 0, []), .inl (0, 2880, fun _ => 0, fun _ => 0, []), .inl (0, 12, fun _ => 0, fun _ => 0, []), .inl (0, 240, fun _ => 0, fun _ => 0, []), .inl (1, 240, fun _ => 0, fun _ => 0, []), .inl (1, 240, fun _ => 0, fun _ => 0, []), .inl (0, 5, fun _ => 0, fun _ => 0, []), .inl (2, 200, fun _ => 0, fun _ => 0, []), .inl (0, 240, fun _ => 0, fun _ => 0, []), .inl (0, 200, fun _ => 0, fun _ => 0, [])] : List nm_E) := by
  unfold nm_X12_31
  rw [ne_X12_30 h]
  rw [List.append_assoc]; rfl
theorem ne_X12_32 {A : List nm_E} (h : A.length = 80) : nm_X12_32 (A ++ [nm_o12]) 80 81 = A ++ ([.inr (12, [.int 0, .int 0, .int (2 : Int32), .int (2 : Int32), .ref 81, .int 0, .ref (81 + 1), .int 0, .ref (81 + 2), .ref (81 + 3), .ref (81 + 4), .ref (81 + 5), .int 0, .ref (81 + 6), .ref (81 + 7), .int 0, .ref (81 + 8), .ref (81 + 9), .int 0, .ref (81 + 10), .int 0, .ref (81 + 11), .ref (81 + 12), .ref (81 + 13), .ref (81 + 14), .null, .null, .null, .null, .null, .int 0, .int 0, .int 0, .int 0, .int 0, .null]), .inl (0, 1000, fun _ => 0, fun _ => 0, []), .inl (0, 32768, fun _ => 0, fun _ => 0, []), .inl (0, 4096, fun _ => 0, fun _ => 0, []), .inl (0, 200, fun _ => 0, fun _ => 0, []), .inl (0, 200, fun _ => 0, fun _ => 0, []), .inl (0, 240, fun _ => 0, fun _ => 0, []), .inl (0, 2880, fun _ => 0, fun _ => 0, []), .inl (0, 12, fun _ => 0, fun _ => 0, []), .inl (0, 240, fun _ => 0, fun _ => 0, []), .inl (1, 240, fun _ => 0, fun _ => 0, []), .inl (1, 240, fun _ => 0, fun _ => 0, []), .inl (0, 5, fun _ => 0, fun _ => 0, []), .inl (2, 200, fun _ => 0, fun _ => 0, []), .inl (0, 240, fun _ => 0, fun _ => 0, []), .inl (0, 200, fun _ => 0, fun _ => 0, [])] : List nm_E) := by
  unfold nm_X12_32
  rw [ne_X12_31 h]
  exact nm_s80 h
theorem ne_X12_33 {A : List nm_E} (h : A.length = 80) : nm_X12_33 (A ++ [nm_o12]) 80 81 = A ++ ([.inr (12, [.int 0, .int 0, .int (2 : Int32), .int (2 : Int32), .ref 81, .int 0, .ref (81 + 1), .int 0, .ref (81 + 2), .ref (81 + 3), .ref (81 + 4), .ref (81 + 5), .int 0, .ref (81 + 6), .ref (81 + 7), .int 0, .ref (81 + 8), .ref (81 + 9), .int 0, .ref (81 + 10), .int 0, .ref (81 + 11), .ref (81 + 12), .ref (81 + 13), .ref (81 + 14), .null, .null, .null, .null, .null, .int 0, .int 0, .int 0, .int 0, .int 0, .null]), .inl (0, 1000, fun _ => 0, fun _ => 0, []), .inl (0, 32768, fun _ => 0, fun _ => 0, []), .inl (0, 4096, fun _ => 0, fun _ => 0, []), .inl (0, 200, fun _ => 0, fun _ => 0, []), .inl (0, 200, fun _ => 0, fun _ => 0, []), .inl (0, 240, fun _ => 0, fun _ => 0, []), .inl (0, 2880, fun _ => 0, fun _ => 0, []), .inl (0, 12, fun _ => 0, fun _ => 0, []), .inl (0, 240, fun _ => 0, fun _ => 0, []), .inl (1, 240, fun _ => 0, fun _ => 0, []), .inl (1, 240, fun _ => 0, fun _ => 0, []), .inl (0, 5, fun _ => 0, fun _ => 0, []), .inl (2, 200, fun _ => 0, fun _ => 0, []), .inl (0, 240, fun _ => 0, fun _ => 0, []), .inl (0, 200, fun _ => 0, fun _ => 0, []), .inl (2, 200, fun _ => 0, fun _ => 0, [])] : List nm_E) := by
  unfold nm_X12_33
  rw [ne_X12_32 h]
  rw [List.append_assoc]; rfl
theorem ne_X12_34 {A : List nm_E} (h : A.length = 80) : nm_X12_34 (A ++ [nm_o12]) 80 81 = A ++ ([.inr (12, [.int 0, .int 0, .int (2 : Int32), .int (2 : Int32), .ref 81, .int 0, .ref (81 + 1), .int 0, .ref (81 + 2), .ref (81 + 3), .ref (81 + 4), .ref (81 + 5), .int 0, .ref (81 + 6), .ref (81 + 7), .int 0, .ref (81 + 8), .ref (81 + 9), .int 0, .ref (81 + 10), .int 0, .ref (81 + 11), .ref (81 + 12), .ref (81 + 13), .ref (81 + 14), .ref (81 + 15), .null, .null, .null, .null, .int 0, .int 0, .int 0, .int 0, .int 0, .null]), .inl (0, 1000, fun _ => 0, fun _ => 0, []), .inl (0, 32768, fun _ => 0, fun _ => 0, []), .inl (0, 4096, fun _ => 0, fun _ => 0, []), .inl (0, 200, fun _ => 0, fun _ => 0, []), .inl (0, 200, fun _ => 0, fun _ => 0, []), .inl (0, 240, fun _ => 0, fun _ => 0, []), .inl (0, 2880, fun _ => 0, fun _ => 0, []), .inl (0, 12, fun _ => 0, fun _ => 0, []), .inl (0, 240, fun _ => 0, fun _ => 0, []), .inl (1, 240, fun _ => 0, fun _ => 0, []), .inl (1, 240, fun _ => 0, fun _ => 0, []), .inl (0, 5, fun _ => 0, fun _ => 0, []), .inl (2, 200, fun _ => 0, fun _ => 0, []), .inl (0, 240, fun _ => 0, fun _ => 0, []), .inl (0, 200, fun _ => 0, fun _ => 0, []), .inl (2, 200, fun _ => 0, fun _ => 0, [])] : List nm_E) := by
  unfold nm_X12_34
  rw [ne_X12_33 h]
  exact nm_s80 h
theorem ne_X12_35 {A : List nm_E} (h : A.length = 80) : nm_X12_35 (A ++ [nm_o12]) 80 81 = A ++ ([.inr (12, [.int 0, .int 0, .int (2 : Int32), .int (2 : Int32), .ref 81, .int 0, .ref (81 + 1), .int 0, .ref (81 + 2), .ref (81 + 3), .ref (81 + 4), .ref (81 + 5), .int 0, .ref (81 + 6), .ref (81 + 7), .int 0, .ref (81 + 8), .ref (81 + 9), .int 0, .ref (81 + 10), .int 0, .ref (81 + 11), .ref (81 + 12), .ref (81 + 13), .ref (81 + 14), .ref (81 + 15), .null, .null, .null, .null, .int 0, .int 0, .int 0, .int 0, .int 0, .null]), .inl (0, 1000, fun _ => 0, fun _ => 0, []), .inl (0, 32768, fun _ => 0, fun _ => 0, []), .inl (0, 4096, fun _ => 0, fun _ => 0, []), .inl (0, 200, fun _ => 0, fun _ => 0, []), .inl (0, 200, fun _ => 0, fun _ => 0, []), .inl (0, 240, fun _ => 0, fun _ => 0, []), .inl (0, 2880, fun _ => 0, fun _ => 0, []), .inl (0, 12, fun _ => 0, fun _ => 0, []), .inl (0, 240, fun _ => 0, fun _ => 0, []), .inl (1, 240, fun _ => 0, fun _ => 0, []), .inl (1, 240, fun _ => 0, fun _ => 0, []), .inl (0, 5, fun _ => 0, fun _ => 0, []), .inl (2, 200, fun _ => 0, fun _ => 0, []), .inl (0, 240, fun _ => 0, fun _ => 0, []), .inl (0, 200, fun _ => 0, fun _ => 0, []), .inl (2, 200, fun _ => 0, fun _ => 0, []), .inl (0, 201, fun _ => 0, fun _ => 0, [])] : List nm_E) := by
  unfold nm_X12_35
  rw [ne_X12_34 h]
  rw [List.append_assoc]; rfl
theorem ne_X12_36 {A : List nm_E} (h : A.length = 80) : nm_X12_36 (A ++ [nm_o12]) 80 81 = A ++ ([.inr (12, [.int 0, .int 0, .int (2 : Int32), .int (2 : Int32), .ref 81, .int 0, .ref (81 + 1), .int 0, .ref (81 + 2), .ref (81 + 3), .ref (81 + 4), .ref (81 + 5), .int 0, .ref (81 + 6), .ref (81 + 7), .int 0, .ref (81 + 8), .ref (81 + 9), .int 0, .ref (81 + 10), .int 0, .ref (81 + 11), .ref (81 + 12), .ref (81 + 13), .ref (81 + 14), .ref (81 + 15), .ref (81 + 16), .null, .null, .null, .int 0, .int 0, .int 0, .int 0, .int 0, .null]), .inl (0, 1000, fun _ => 0, fun _ => 0, []), .inl (0, 32768, fun _ => 0, fun _ => 0, []), .inl (0, 4096, fun _ => 0, fun _ => 0, []), .inl (0, 200, fun _ => 0, fun _ => 0, []), .inl (0, 200, fun _ => 0, fun _ => 0, []), .inl (0, 240, fun _ => 0, fun _ => 0, []), .inl (0, 2880, fun _ => 0, fun _ => 0, []), .inl (0, 12, fun _ => 0, fun _ => 0, []), .inl (0, 240, fun _ => 0, fun _ => 0, []), .inl (1, 240, fun _ => 0, fun _ => 0, []), .inl (1, 240, fun _ => 0, fun _ => 0, []), .inl (0, 5, fun _ => 0, fun _ => 0, []), .inl (2, 200, fun _ => 0, fun _ => 0, []), .inl (0, 240, fun _ => 0, fun _ => 0, []), .inl (0, 200, fun _ => 0, fun _ => 0, []), .inl (2, 200, fun _ => 0, fun _ => 0, []), .inl (0, 201, fun _ => 0, fun _ => 0, [])] : List nm_E) := by
  unfold nm_X12_36
  rw [ne_X12_35 h]
  exact nm_s80 h
theorem ne_X12_37 {A : List nm_E} (h : A.length = 80) : nm_X12_37 (A ++ [nm_o12]) 80 81 = A ++ ([.inr (12, [.int 0, .int 0, .int (2 : Int32), .int (2 : Int32), .ref 81, .int 0, .ref (81 + 1), .int 0, .ref (81 + 2), .ref (81 + 3), .ref (81 + 4), .ref (81 + 5), .int 0, .ref (81 + 6), .ref (81 + 7), .int 0, .ref (81 + 8), .ref (81 + 9), .int 0, .ref (81 + 10), .int 0, .ref (81 + 11), .ref (81 + 12), .ref (81 + 13), .ref (81 + 14), .ref (81 + 15), .ref (81 + 16), .null, .null, .null, .int 0, .int 0, .int 0, .int 0, .int 0, .null]), .inl (0, 1000, fun _ => 0, fun _ => 0, []), .inl (0, 32768, fun _ => 0, fun _ => 0, []), .inl (0, 4096, fun _ => 0, fun _ => 0, []), .inl (0, 200, fun _ => 0, fun _ => 0, []), .inl (0, 200, fun _ => 0, fun _ => 0, []), .inl (0, 240, fun _ => 0, fun _ => 0, []), .inl (0, 2880, fun _ => 0, fun _ => 0, []), .inl (0, 12, fun _ => 0, fun _ => 0, []), .inl (0, 240, fun _ => 0, fun _ => 0, []), .inl (1, 240, fun _ => 0, fun _ => 0, []), .inl (1, 240, fun _ => 0, fun _ => 0, []), .inl (0, 5, fun _ => 0, fun _ => 0, []), .inl (2, 200, fun _ => 0, fun _ => 0, []), .inl (0, 240, fun _ => 0, fun _ => 0, []), .inl (0, 200, fun _ => 0, fun _ => 0, []), .inl (2, 200, fun _ => 0, fun _ => 0, []), .inl (0, 201, fun _ => 0, fun _ => 0, []), .inl (0, 201, fun _ => 0, fun _ => 0, [])] : List nm_E) := by
  unfold nm_X12_37
  rw [ne_X12_36 h]
  rw [List.append_assoc]; rfl
theorem ne_X12_38 {A : List nm_E} (h : A.length = 80) : nm_X12_38 (A ++ [nm_o12]) 80 81 = A ++ ([.inr (12, [.int 0, .int 0, .int (2 : Int32), .int (2 : Int32), .ref 81, .int 0, .ref (81 + 1), .int 0, .ref (81 + 2), .ref (81 + 3), .ref (81 + 4), .ref (81 + 5), .int 0, .ref (81 + 6), .ref (81 + 7), .int 0, .ref (81 + 8), .ref (81 + 9), .int 0, .ref (81 + 10), .int 0, .ref (81 + 11), .ref (81 + 12), .ref (81 + 13), .ref (81 + 14), .ref (81 + 15), .ref (81 + 16), .ref (81 + 17), .null, .null, .int 0, .int 0, .int 0, .int 0, .int 0, .null]), .inl (0, 1000, fun _ => 0, fun _ => 0, []), .inl (0, 32768, fun _ => 0, fun _ => 0, []), .inl (0, 4096, fun _ => 0, fun _ => 0, []), .inl (0, 200, fun _ => 0, fun _ => 0, []), .inl (0, 200, fun _ => 0, fun _ => 0, []), .inl (0, 240, fun _ => 0, fun _ => 0, []), .inl (0, 2880, fun _ => 0, fun _ => 0, []), .inl (0, 12, fun _ => 0, fun _ => 0, []), .inl (0, 240, fun _ => 0, fun _ => 0, []), .inl (1, 240, fun _ => 0, fun _ => 0, []), .inl (1, 240, fun _ => 0, fun _ => 0, []), .inl (0, 5, fun _ => 0, fun _ => 0, []), .inl (2, 200, fun _ => 0, fun _ => 0, []), .inl (0, 240, fun _ => 0, fun _ => 0, []), .inl (0, 200, fun _ => 0, fun _ => 0, []), .inl (2, 200, fun _ => 0, fun _ => 0, []), .inl (0, 201, fun _ => 0, fun _ => 0, []), .inl (0, 201, fun _ => 0, fun _ => 0, [])] : List nm_E) := by
  unfold nm_X12_38
  rw [ne_X12_37 h]
  exact nm_s80 h
theorem ne_X12_39 {A : List nm_E} (h : A.length = 80) : nm_X12_39 (A ++ [nm_o12]) 80 81 = A ++ ([.inr (12, [.int 0, .int 0, .int (2 : Int32), .int (2 : Int32), .ref 81, .int 0, .ref (81 + 1), .int 0, .ref (81 + 2), .ref (81 + 3), .ref (81 + 4), .ref (81 + 5), .int 0, .ref (81 + 6), .ref (81 + 7), .int 0, .ref (81 + 8), .ref (81 + 9), .int 0, .ref (81 + 10), .int 0, .ref (81 + 11), .ref (81 + 12), .ref (81 + 13), .ref (81 + 14), .ref (81 + 15), .ref (81 + 16), .ref (81 + 17), .null, .null, .int 0, .int 0, .int 0, .int 0, .int 0, .null]), .inl (0, 1000, fun _ => 0, fun _ => 0, []), .inl (0, 32768, fun _ => 0, fun _ => 0, []), .inl (0, 4096, fun _ => 0, fun _ => 0, []), .inl (0, 200, fun _ => 0, fun _ => 0, []), .inl (0, 200, fun _ => 0, fun _ => 0, []), .inl (0, 240, fun _ => 0, fun _ => 0, []), .inl (0, 2880, fun _ => 0, fun _ => 0, []), .inl (0, 12, fun _ => 0, fun _ => 0, []), .inl (0, 240, fun _ => 0, fun _ => 0, []), .inl (1, 240, fun _ => 0, fun _ => 0, []), .inl (1, 240, fun _ => 0, fun _ => 0, []), .inl (0, 5, fun _ => 0, fun _ => 0, []), .inl (2, 200, fun _ => 0, fun _ => 0, []), .inl (0, 240, fun _ => 0, fun _ => 0, []), .inl (0, 200, fun _ => 0, fun _ => 0, []), .inl (2, 200, fun _ => 0, fun _ => 0, []), .inl (0, 201, fun _ => 0, fun _ => 0, []), .inl (0, 201, fun _ => 0, fun _ => 0, []), .inl (0, 200, fun _ => 0, fun _ => 0, [])] : List nm_E) := by
  unfold nm_X12_39
  rw [ne_X12_38 h]
  rw [List.append_assoc]; rfl
theorem ne_X12_40 {A : List nm_E} (h : A.length = 80) : nm_X12_40 (A ++ [nm_o12]) 80 81 = A ++ ([.inr (12, [.int 0, .int 0, .int (2 : Int32), .int (2 : Int32), .ref 81, .int 0, .ref (81 + 1), .int 0, .ref (81 + 2), .ref (81 + 3), .ref (81 + 4), .ref (81 + 5), .int 0, .ref (81 + 6), .ref (81 + 7), .int 0, .ref (81 + 8), .ref (81 + 9), .int 0, .ref (81 + 10), .int 0, .ref (81 + 11), .ref (81 + 12), .ref (81 + 13), .ref (81 + 14), .ref (81 + 15), .ref (81 + 16), .ref (81 + 17), .ref (81 + 18), .null, .int 0, .int 0, .int 0, .int 0, .int 0, .null]), .inl (0, 1000, fun _ => 0, fun _ => 0, []), .inl (0, 32768, fun _ => 0, fun _ => 0, []), .inl (0, 4096, fun _ => 0, fun _ => 0, []), .inl (0, 200, fun _ => 0, fun _ => 0, []), .inl (0, 200, fun _ => 0, fun _ => 0, []), .inl (0, 240, fun _ => 0, fun _ => 0, []), .inl (0, 2880, fun _ => 0, fun _ => 0, []), .inl (0, 12, fun _ => 0, fun _ => 0, []), .inl (0, 240, fun _ => 0, fun _ => 0, []), .inl (1, 240, fun _ => 0, fun _ => 0, []), .inl (1, 240, fun _ => 0, fun _ => 0, []), .inl (0, 5, fun _ => 0, fun _ => 0, []), .inl (2, 200, fun _ => 0, fun _ => 0, []), .inl (0, 240, fun _ => 0, fun _ => 0, []), .inl (0, 200, fun _ => 0, fun _ => 0, []), .inl (2, 200, fun _ => 0, fun _ => 0, []), .inl (0, 201, fun _ => 0, fun _ => 0, []), .inl (0, 201, fun _ => 0, fun _ => 0, []), .inl (0, 200, fun _ => 0, fun _ => 0, [])] : List nm_E) := by
  unfold nm_X12_40
  rw [ne_X12_39 h]
  exact nm_s80 h
theorem ne_X12_41 {A : List nm_E} (h : A.length = 80) : nm_X12_41 (A ++ [nm_o12]) 80 81 = A ++ ([.inr (12, [.int 0, .int 0, .int (2 : Int32), .int (2 : Int32), .ref 81, .int 0, .ref (81 + 1), .int 0, .ref (81 + 2), .ref (81 + 3), .ref (81 + 4), .ref (81 + 5), .int 0, .ref (81 + 6), .ref (81 + 7), .int 0, .ref (81 + 8), .ref (81 + 9), .int 0, .ref (81 + 10), .int 0, .ref (81 + 11), .ref (81 + 12), .ref (81 + 13), .ref (81 + 14), .ref (81 + 15), .ref (81 + 16), .ref (81 + 17), .ref (81 + 18), .null, .int 0, .int 0, .int 0, .int 0, .int 0, .null]), .inl (0, 1000, fun _ => 0, fun _ => 0, []), .inl (0, 32768, fun _ => 0, fun _ => 0, []), .inl (0, 4096, fun _ => 0, fun _ => 0, []), .inl (0, 200, fun _ => 0, fun _ => 0, []), .inl (0, 200, fun _ => 0, fun _ => 0, []), .inl (0, 240, fun _ => 0, fun _ => 0, []), .inl (0, 2880, fun _ => 0, fun _ => 0, []), .inl (0, 12, fun _ => 0, fun _ => 0, []), .inl (0, 240, fun _ => 0, fun _ => 0, []), .inl (1, 240, fun _ => 0, fun _ => 0, []), .inl (1, 240, fun _ => 0, fun _ => 0, []), .inl (0, 5, fun _ => 0, fun _ => 0, []), .inl (2, 200, fun _ => 0, fun _ => 0, []), .inl (0, 240, fun _ => 0, fun _ => 0, []), .inl (0, 200, fun _ => 0, fun _ => 0, []), .inl (2, 200, fun _ => 0, fun _ => 0, []), .inl (0, 201, fun _ => 0, fun _ => 0, []), .inl (0, 201, fun _ => 0, fun _ => 0, []), .inl (0, 200, fun _ => 0, fun _ => 0, []), .inl (3, 64, fun _ => 0, fun _ => 0, [])] : List nm_E) := by
  unfold nm_X12_41
  rw [ne_X12_40 h]
  rw [List.append_assoc]; rfl
theorem ne_X12_42 {A : List nm_E} (h : A.length = 80) : nm_X12_42 (A ++ [nm_o12]) 80 81 = A ++ ([.inr (12, [.int 0, .int 0, .int (2 : Int32), .int (2 : Int32), .ref 81, .int 0, .ref (81 + 1), .int 0, .ref (81 + 2), .ref (81 + 3), .ref (81 + 4), .ref (81 + 5), .int 0, .ref (81 + 6), .ref (81 + 7), .int 0, .ref (81 + 8), .ref (81 + 9), .int 0, .ref (81 + 10), .int 0, .ref (81 + 11), .ref (81 + 12), .ref (81 + 13), .ref (81 + 14), .ref (81 + 15), .ref (81 + 16), .ref (81 + 17), .ref (81 + 18), .ref (81 + 19), .int 0, .int 0, .int 0, .int 0, .int 0, .null]), .inl (0, 1000, fun _ => 0, fun _ => 0, []), .inl (0, 32768, fun _ => 0, fun _ => 0, []), .inl (0, 4096, fun _ => 0, fun _ => 0, []), .inl (0, 200, fun _ => 0, fun _ => 0, []), .inl (0, 200, fun _ => 0, fun _ => 0, []), .inl (0, 240, fun _ => 0, fun _ => 0, []), .inl (0, 2880, fun _ => 0, fun _ => 0, []), .inl (0, 12, fun _ => 0, fun _ => 0, []), .inl (0, 240, fun _ => 0, fun _ => 0, []), .inl (1, 240, fun _ => 0, fun _ => 0, []), .inl (1, 240, fun _ => 0, fun _ => 0, []), .inl (0, 5, fun _ => 0, fun _ => 0, []), .inl (2, 200, fun _ => 0, fun _ => 0, []), .inl (0, 240, fun _ => 0, fun _ => 0, []), .inl (0, 200, fun _ => 0, fun _ => 0, []), .inl (2, 200, fun _ => 0, fun _ => 0, []), .inl (0, 201, fun _ => 0, fun _ => 0, []), .inl (0, 201, fun _ => 0, fun _ => 0, []), .inl (0, 200, fun _ => 0, fun _ => 0, []), .inl (3, 64, fun _ => 0, fun _ => 0, [])] : List nm_E) := by
  unfold nm_X12_42
  rw [ne_X12_41 h]
  exact nm_s80 h
theorem ne_X12_43 {A : List nm_E} (h : A.length = 80) : nm_X12_43 (A ++ [nm_o12]) 80 81 = A ++ ([.inr (12, [.int 0, .int 0, .int (2 : Int32), .int (2 : Int32), .ref 81, .int 0, .ref (81 + 1), .int 0, .ref (81 + 2), .ref (81 + 3), .ref (81 + 4), .ref (81 + 5), .int 0, .ref (81 + 6), .ref (81 + 7), .int 0, .ref (81 + 8), .ref (81 + 9), .int 0, .ref (81 + 10), .int 0, .ref (81 + 11), .ref (81 + 12), .ref (81 + 13), .ref (81 + 14), .ref (81 + 15), .ref (81 + 16), .ref (81 + 17), .ref (81 + 18), .ref (81 + 19), .int 0, .int 0, .int 0, .int 0, .int 0, .null]), .inl (0, 1000, fun _ => 0, fun _ => 0, []), .inl (0, 32768, fun _ => 0, fun _ => 0, []), .inl (0, 4096, fun _ => 0, fun _ => 0, []), .inl (0, 200, fun _ => 0, fun _ => 0, []), .inl (0, 200, fun _ => 0, fun _ => 0, []), .inl (0, 240, fun _ => 0, fun _ => 0, []), .inl (0, 2880, fun _ => 0, fun _ => 0, []), .inl (0, 12, fun _ => 0, fun _ => 0, []), .inl (0, 240, fun _ => 0, fun _ => 0, []), .inl (1, 240, fun _ => 0, fun _ => 0, []), .inl (1, 240, fun _ => 0, fun _ => 0, []), .inl (0, 5, fun _ => 0, fun _ => 0, []), .inl (2, 200, fun _ => 0, fun _ => 0, []), .inl (0, 240, fun _ => 0, fun _ => 0, []), .inl (0, 200, fun _ => 0, fun _ => 0, []), .inl (2, 200, fun _ => 0, fun _ => 0, []), .inl (0, 201, fun _ => 0, fun _ => 0, []), .inl (0, 201, fun _ => 0, fun _ => 0, []), .inl (0, 200, fun _ => 0, fun _ => 0, []), .inl (3, 64, fun _ => 0, fun _ => 0, []), .inl (0, 240, fun _ => 0, fun _ => 0, [])] : List nm_E) := by
  unfold nm_X12_43
  rw [ne_X12_42 h]
  rw [List.append_assoc]; rfl
theorem ne_X12_44 {A : List nm_E} (h : A.length = 80) : nm_X12_44 (A ++ [nm_o12]) 80 81 = A ++ ([.inr (12, [.int 0, .int 0, .int (2 : Int32), .int (2 : Int32), .ref 81, .int 0, .ref (81 + 1), .int 0, .ref (81 + 2), .ref (81 + 3), .ref (81 + 4), .ref (81 + 5), .int 0, .ref (81 + 6), .ref (81 + 7), .int 0, .ref (81 + 8), .ref (81 + 9), .int 0, .ref (81 + 10), .int 0, .ref (81 + 11), .ref (81 + 12), .ref (81 + 13), .ref (81 + 14), .ref (81 + 15), .ref (81 + 16), .ref (81 + 17), .ref (81 + 18), .ref (81 + 19), .int 0, .int 0, .int 0, .int 0, .int 0, .ref (81 + 20)]), .inl (0, 1000, fun _ => 0, fun _ => 0, []), .inl (0, 32768, fun _ => 0, fun _ => 0, []), .inl (0, 4096, fun _ => 0, fun _ => 0, []), .inl (0, 200, fun _ => 0, fun _ => 0, []), .inl (0, 200, fun _ => 0, fun _ => 0, []), .inl (0, 240, fun _ => 0, fun _ => 0, []), .inl (0, 2880, fun _ => 0, fun _ => 0, []), .inl (0, 12, fun _ => 0, fun _ => 0, []), .inl (0, 240, fun _ => 0, fun _ => 0, []), .inl (1, 240, fun _ => 0, fun _ => 0, []), .inl (1, 240, fun _ => 0, fun _ => 0, []), .inl (0, 5, fun _ => 0, fun _ => 0, []), .inl (2, 200, fun _ => 0, fun _ => 0, []), .inl (0, 240, fun _ => 0, fun _ => 0, []), .inl (0, 200, fun _ => 0, fun _ => 0, []), .inl (2, 200, fun _ => 0, fun _ => 0, []), .inl (0, 201, fun _ => 0, fun _ => 0, []), .inl (0, 201, fun _ => 0, fun _ => 0, []), .inl (0, 200, fun _ => 0, fun _ => 0, []), .inl (3, 64, fun _ => 0, fun _ => 0, []), .inl (0, 240, fun _ => 0, fun _ => 0, [])] : List nm_E) := by
  unfold nm_X12_44
  rw [ne_X12_43 h]
  exact nm_s80 h
theorem nm_iniX (M : sm_M) : nm_dy skX (nm_ini M) = nm_dy skX M := by
  unfold nm_dy
  apply List.mapIdx_eq_mapIdx_iff.mpr
  intro i hi
  have h8 : i < 80 := hi
  have h1 : (nm_ini M).1 i = M.1 i := if_pos h8
  have h2 : (nm_ini M).2 i = M.2 i := if_pos h8
  unfold nm_dc
  rw [h1, h2]
theorem nm_e12 (M : sm_M) : nm_X12 (nm_dy skX M ++ [nm_o12]) 80 81 = nm_dy skM (nm_ini M) := by
  refine (ne_X12_44 (show (nm_dy skX M).length = 80 from nm_dyl skX M)).trans ?_
  have hX : skX.length = 80 := rfl
  have hs : ∀ L : List sm_Sh, nm_dy (skX ++ L) (nm_ini M) = nm_dy skX M ++ L.mapIdx (fun i e => nm_dc (nm_ini M) (i + 80) e) := fun L => by
    rw [← nm_iniX M]
    unfold nm_dy
    rw [List.mapIdx_append, hX]
  unfold skM
  rw [hs]
  refine congrArg (fun l => nm_dy skX M ++ l) ?_
  simp [nm_dc, nm_ini]
theorem cN_new11 {F : Nat} {M1 : sm_M} (h : f_X11_beginFamily F 0 2 2 nm_z = some M1) : nm_Ct yX11_init md_X11_init 7 79 9351 [.ref 0] [nm_o11] (nm_dy skX M1) :=
  cN_X11 (n := 1) rfl rfl nm_e11 sx_0 (c_X11_beginFamily (fun h => h) F 0 2 2 nm_z M1 h)
theorem cN_new12 {F : Nat} {M M1 : sm_M} (h : f_X12_fill F (nm_ini M) = some M1) : nm_Ct yX12_init md_X12_init 4 21 43867 [.ref 80] (nm_dy skX M ++ [nm_o12]) (nm_dy skM M1) :=
  cN_X12 (n := 81) (by rw [List.length_append, nm_dyl]; rfl) (nm_l3 (nm_dyl skX M)) (nm_e12 M) sx_80 (c_X12_fill (fun h => h) F (nm_ini M) M1 h)
