/-! ===== the skeleton, as the constructors make it; method facts; links; constants ===== -/
def skX : List sm_Sh := [.inr (11, [some 1, some 5, some 24, some 26, some 52, some 57, some 62, some 64, some 67, some 76, none, some 77, none, some 78, none, none, none, none]), .inr (2, [some 2, none, none, none]), .inr (1, [some 3, some 4, none]), .inl (0, 200, []), .inl (0, 200, []), .inr (4, [some 6, some 9, some 13, some 17, some 18, some 19, some 20, some 21, some 22, some 23, none, none]), .inr (1, [some 7, some 8, none]), .inl (0, 200, []), .inl (0, 200, []), .inr (3, [some 10, some 11, some 12]), .inl (0, 200, []), .inl (0, 200, []), .inl (0, 201, []), .inr (3, [some 14, some 15, some 16]), .inl (0, 200, []), .inl (0, 200, []), .inl (0, 201, []), .inl (0, 200, []), .inl (0, 201, []), .inl (0, 201, []), .inl (0, 200, []), .inl (0, 200, []), .inl (0, 200, []), .inl (0, 200, []), .inr (7, [some 25, none]), .inl (0, 240, []), .inr (6, [some 27, none, none]), .inl (4, 12, [28, 30, 32, 34, 36, 38, 40, 42, 44, 46, 48, 50]), .inr (7, [some 29, none]), .inl (0, 240, []), .inr (7, [some 31, none]), .inl (0, 240, []), .inr (7, [some 33, none]), .inl (0, 240, []), .inr (7, [some 35, none]), .inl (0, 240, []), .inr (7, [some 37, none]), .inl (0, 240, []), .inr (7, [some 39, none]), .inl (0, 240, []), .inr (7, [some 41, none]), .inl (0, 240, []), .inr (7, [some 43, none]), .inl (0, 240, []), .inr (7, [some 45, none]), .inl (0, 240, []), .inr (7, [some 47, none]), .inl (0, 240, []), .inr (7, [some 49, none]), .inl (0, 240, []), .inr (7, [some 51, none]), .inl (0, 240, []), .inr (10, [some 53, some 54, some 55, some 56, none, none, none, none]), .inl (0, 240, []), .inl (0, 200, []), .inl (0, 200, []), .inl (2, 200, []), .inr (8, [some 58, some 60, some 61, none, none]), .inr (7, [some 59, none]), .inl (0, 240, []), .inl (0, 240, []), .inl (2, 200, []), .inr (5, [some 63]), .inl (2, 200, []), .inr (9, [some 65]), .inr (7, [some 66, none]), .inl (0, 240, []), .inr (0, [some 68]), .inl (5, 7, [69, 70, 71, 72, 73, 74, 75]), .inl (3, 7, []), .inl (3, 7, []), .inl (3, 7, []), .inl (3, 7, []), .inl (3, 7, []), .inl (3, 7, []), .inl (3, 7, []), .inl (1, 240, []), .inl (1, 240, []), .inr (7, [some 79, none]), .inl (0, 240, [])]
def skM : List sm_Sh := skX ++ [.inr (12, [none, none, none, none, some 81, none, some 82, none, some 83, some 84, some 85, some 86, none, some 87, some 88, none, some 89, some 90, none, some 91, none, some 92, some 93, some 94, some 95, some 96, some 97, some 98, some 99, some 100, none, none, none, none, none, some 101]), .inl (0, 1000, []), .inl (0, 32768, []), .inl (0, 4096, []), .inl (0, 200, []), .inl (0, 200, []), .inl (0, 240, []), .inl (0, 2880, []), .inl (0, 12, []), .inl (0, 240, []), .inl (1, 240, []), .inl (1, 240, []), .inl (0, 5, []), .inl (2, 200, []), .inl (0, 240, []), .inl (0, 200, []), .inl (2, 200, []), .inl (0, 201, []), .inl (0, 201, []), .inl (0, 200, []), .inl (3, 64, []), .inl (0, 240, [])]
theorem sx_0 : skX[0]? = some (.inr (11, [some 1, some 5, some 24, some 26, some 52, some 57, some 62, some 64, some 67, some 76, none, some 77, none, some 78, none, none, none, none])) := rfl
theorem sx_1 : skX[1]? = some (.inr (2, [some 2, none, none, none])) := rfl
theorem sx_2 : skX[2]? = some (.inr (1, [some 3, some 4, none])) := rfl
theorem sx_3 : skX[3]? = some (.inl (0, 200, [])) := rfl
theorem sx_4 : skX[4]? = some (.inl (0, 200, [])) := rfl
theorem sx_5 : skX[5]? = some (.inr (4, [some 6, some 9, some 13, some 17, some 18, some 19, some 20, some 21, some 22, some 23, none, none])) := rfl
theorem sx_6 : skX[6]? = some (.inr (1, [some 7, some 8, none])) := rfl
theorem sx_7 : skX[7]? = some (.inl (0, 200, [])) := rfl
theorem sx_8 : skX[8]? = some (.inl (0, 200, [])) := rfl
theorem sx_9 : skX[9]? = some (.inr (3, [some 10, some 11, some 12])) := rfl
theorem sx_10 : skX[10]? = some (.inl (0, 200, [])) := rfl
theorem sx_11 : skX[11]? = some (.inl (0, 200, [])) := rfl
theorem sx_12 : skX[12]? = some (.inl (0, 201, [])) := rfl
theorem sx_13 : skX[13]? = some (.inr (3, [some 14, some 15, some 16])) := rfl
theorem sx_14 : skX[14]? = some (.inl (0, 200, [])) := rfl
theorem sx_15 : skX[15]? = some (.inl (0, 200, [])) := rfl
theorem sx_16 : skX[16]? = some (.inl (0, 201, [])) := rfl
theorem sx_17 : skX[17]? = some (.inl (0, 200, [])) := rfl
theorem sx_18 : skX[18]? = some (.inl (0, 201, [])) := rfl
theorem sx_19 : skX[19]? = some (.inl (0, 201, [])) := rfl
theorem sx_20 : skX[20]? = some (.inl (0, 200, [])) := rfl
theorem sx_21 : skX[21]? = some (.inl (0, 200, [])) := rfl
theorem sx_22 : skX[22]? = some (.inl (0, 200, [])) := rfl
theorem sx_23 : skX[23]? = some (.inl (0, 200, [])) := rfl
theorem sx_24 : skX[24]? = some (.inr (7, [some 25, none])) := rfl
theorem sx_25 : skX[25]? = some (.inl (0, 240, [])) := rfl
theorem sx_26 : skX[26]? = some (.inr (6, [some 27, none, none])) := rfl
theorem sx_27 : skX[27]? = some (.inl (4, 12, [28, 30, 32, 34, 36, 38, 40, 42, 44, 46, 48, 50])) := rfl
theorem sx_28 : skX[28]? = some (.inr (7, [some 29, none])) := rfl
theorem sx_29 : skX[29]? = some (.inl (0, 240, [])) := rfl
theorem sx_30 : skX[30]? = some (.inr (7, [some 31, none])) := rfl
theorem sx_31 : skX[31]? = some (.inl (0, 240, [])) := rfl
theorem sx_32 : skX[32]? = some (.inr (7, [some 33, none])) := rfl
theorem sx_33 : skX[33]? = some (.inl (0, 240, [])) := rfl
theorem sx_34 : skX[34]? = some (.inr (7, [some 35, none])) := rfl
theorem sx_35 : skX[35]? = some (.inl (0, 240, [])) := rfl
theorem sx_36 : skX[36]? = some (.inr (7, [some 37, none])) := rfl
theorem sx_37 : skX[37]? = some (.inl (0, 240, [])) := rfl
theorem sx_38 : skX[38]? = some (.inr (7, [some 39, none])) := rfl
theorem sx_39 : skX[39]? = some (.inl (0, 240, [])) := rfl
theorem sx_40 : skX[40]? = some (.inr (7, [some 41, none])) := rfl
theorem sx_41 : skX[41]? = some (.inl (0, 240, [])) := rfl
theorem sx_42 : skX[42]? = some (.inr (7, [some 43, none])) := rfl
theorem sx_43 : skX[43]? = some (.inl (0, 240, [])) := rfl
theorem sx_44 : skX[44]? = some (.inr (7, [some 45, none])) := rfl
theorem sx_45 : skX[45]? = some (.inl (0, 240, [])) := rfl
theorem sx_46 : skX[46]? = some (.inr (7, [some 47, none])) := rfl
theorem sx_47 : skX[47]? = some (.inl (0, 240, [])) := rfl
theorem sx_48 : skX[48]? = some (.inr (7, [some 49, none])) := rfl
theorem sx_49 : skX[49]? = some (.inl (0, 240, [])) := rfl
theorem sx_50 : skX[50]? = some (.inr (7, [some 51, none])) := rfl
theorem sx_51 : skX[51]? = some (.inl (0, 240, [])) := rfl
theorem sx_52 : skX[52]? = some (.inr (10, [some 53, some 54, some 55, some 56, none, none, none, none])) := rfl
theorem sx_53 : skX[53]? = some (.inl (0, 240, [])) := rfl
theorem sx_54 : skX[54]? = some (.inl (0, 200, [])) := rfl
theorem sx_55 : skX[55]? = some (.inl (0, 200, [])) := rfl
theorem sx_56 : skX[56]? = some (.inl (2, 200, [])) := rfl
theorem sx_57 : skX[57]? = some (.inr (8, [some 58, some 60, some 61, none, none])) := rfl
theorem sx_58 : skX[58]? = some (.inr (7, [some 59, none])) := rfl
theorem sx_59 : skX[59]? = some (.inl (0, 240, [])) := rfl
theorem sx_60 : skX[60]? = some (.inl (0, 240, [])) := rfl
theorem sx_61 : skX[61]? = some (.inl (2, 200, [])) := rfl
theorem sx_62 : skX[62]? = some (.inr (5, [some 63])) := rfl
theorem sx_63 : skX[63]? = some (.inl (2, 200, [])) := rfl
theorem sx_64 : skX[64]? = some (.inr (9, [some 65])) := rfl
theorem sx_65 : skX[65]? = some (.inr (7, [some 66, none])) := rfl
theorem sx_66 : skX[66]? = some (.inl (0, 240, [])) := rfl
theorem sx_67 : skX[67]? = some (.inr (0, [some 68])) := rfl
theorem sx_68 : skX[68]? = some (.inl (5, 7, [69, 70, 71, 72, 73, 74, 75])) := rfl
theorem sx_69 : skX[69]? = some (.inl (3, 7, [])) := rfl
theorem sx_70 : skX[70]? = some (.inl (3, 7, [])) := rfl
theorem sx_71 : skX[71]? = some (.inl (3, 7, [])) := rfl
theorem sx_72 : skX[72]? = some (.inl (3, 7, [])) := rfl
theorem sx_73 : skX[73]? = some (.inl (3, 7, [])) := rfl
theorem sx_74 : skX[74]? = some (.inl (3, 7, [])) := rfl
theorem sx_75 : skX[75]? = some (.inl (3, 7, [])) := rfl
theorem sx_76 : skX[76]? = some (.inl (1, 240, [])) := rfl
theorem sx_77 : skX[77]? = some (.inl (1, 240, [])) := rfl
theorem sx_78 : skX[78]? = some (.inr (7, [some 79, none])) := rfl
theorem sx_79 : skX[79]? = some (.inl (0, 240, [])) := rfl
theorem sx_80 : skM[80]? = some (.inr (12, [none, none, none, none, some 81, none, some 82, none, some 83, some 84, some 85, some 86, none, some 87, some 88, none, some 89, some 90, none, some 91, none, some 92, some 93, some 94, some 95, some 96, some 97, some 98, some 99, some 100, none, none, none, none, none, some 101])) := rfl
theorem sx_81 : skM[81]? = some (.inl (0, 1000, [])) := rfl
theorem sx_82 : skM[82]? = some (.inl (0, 32768, [])) := rfl
theorem sx_83 : skM[83]? = some (.inl (0, 4096, [])) := rfl
theorem sx_84 : skM[84]? = some (.inl (0, 200, [])) := rfl
theorem sx_85 : skM[85]? = some (.inl (0, 200, [])) := rfl
theorem sx_86 : skM[86]? = some (.inl (0, 240, [])) := rfl
theorem sx_87 : skM[87]? = some (.inl (0, 2880, [])) := rfl
theorem sx_88 : skM[88]? = some (.inl (0, 12, [])) := rfl
theorem sx_89 : skM[89]? = some (.inl (0, 240, [])) := rfl
theorem sx_90 : skM[90]? = some (.inl (1, 240, [])) := rfl
theorem sx_91 : skM[91]? = some (.inl (1, 240, [])) := rfl
theorem sx_92 : skM[92]? = some (.inl (0, 5, [])) := rfl
theorem sx_93 : skM[93]? = some (.inl (2, 200, [])) := rfl
theorem sx_94 : skM[94]? = some (.inl (0, 240, [])) := rfl
theorem sx_95 : skM[95]? = some (.inl (0, 200, [])) := rfl
theorem sx_96 : skM[96]? = some (.inl (2, 200, [])) := rfl
theorem sx_97 : skM[97]? = some (.inl (0, 201, [])) := rfl
theorem sx_98 : skM[98]? = some (.inl (0, 201, [])) := rfl
theorem sx_99 : skM[99]? = some (.inl (0, 200, [])) := rfl
theorem sx_100 : skM[100]? = some (.inl (3, 64, [])) := rfl
theorem sx_101 : skM[101]? = some (.inl (0, 240, [])) := rfl
theorem sm_hist {i : Int32} (h : sm_ib i 12 = true) : ([28, 30, 32, 34, 36, 38, 40, 42, 44, 46, 48, 50] : List Nat)[i.toNatClampNeg]? = some (28 + 2 * i.toNatClampNeg) := by
  have hl : i.toNatClampNeg < 12 := by
    simp only [sm_ib, Bool.and_eq_true, decide_eq_true_eq] at h
    exact h.2
  generalize i.toNatClampNeg = k at hl
  match k, hl with
  | 0, _ => rfl
  | 1, _ => rfl
  | 2, _ => rfl
  | 3, _ => rfl
  | 4, _ => rfl
  | 5, _ => rfl
  | 6, _ => rfl
  | 7, _ => rfl
  | 8, _ => rfl
  | 9, _ => rfl
  | 10, _ => rfl
  | 11, _ => rfl
  | n + 12, h => exact absurd h (by omega)
theorem sm_hrow {sk : List sm_Sh} (hx : sm_ext skX sk) {i : Int32} (h : sm_ib i 12 = true) : sm_row sk (28 + 2 * i.toNatClampNeg) := by
  have hl : i.toNatClampNeg < 12 := by
    simp only [sm_ib, Bool.and_eq_true, decide_eq_true_eq] at h
    exact h.2
  generalize i.toNatClampNeg = k at hl
  match k, hl with
  | 0, _ => exact ⟨hx sx_28, hx sx_29⟩
  | 1, _ => exact ⟨hx sx_30, hx sx_31⟩
  | 2, _ => exact ⟨hx sx_32, hx sx_33⟩
  | 3, _ => exact ⟨hx sx_34, hx sx_35⟩
  | 4, _ => exact ⟨hx sx_36, hx sx_37⟩
  | 5, _ => exact ⟨hx sx_38, hx sx_39⟩
  | 6, _ => exact ⟨hx sx_40, hx sx_41⟩
  | 7, _ => exact ⟨hx sx_42, hx sx_43⟩
  | 8, _ => exact ⟨hx sx_44, hx sx_45⟩
  | 9, _ => exact ⟨hx sx_46, hx sx_47⟩
  | 10, _ => exact ⟨hx sx_48, hx sx_49⟩
  | 11, _ => exact ⟨hx sx_50, hx sx_51⟩
  | n + 12, h => exact absurd h (by omega)
theorem sm_mat {i : Int32} (h : sm_ib i 7 = true) : ([69, 70, 71, 72, 73, 74, 75] : List Nat)[i.toNatClampNeg]? = some (69 + i.toNatClampNeg) := by
  have hl : i.toNatClampNeg < 7 := by
    simp only [sm_ib, Bool.and_eq_true, decide_eq_true_eq] at h
    exact h.2
  generalize i.toNatClampNeg = k at hl
  match k, hl with
  | 0, _ => rfl
  | 1, _ => rfl
  | 2, _ => rfl
  | 3, _ => rfl
  | 4, _ => rfl
  | 5, _ => rfl
  | 6, _ => rfl
  | n + 7, h => exact absurd h (by omega)
theorem sm_mrow {sk : List sm_Sh} (hx : sm_ext skX sk) {i : Int32} (h : sm_ib i 7 = true) : sk[69 + i.toNatClampNeg]? = some (.inl (3, 7, [])) := by
  have hl : i.toNatClampNeg < 7 := by
    simp only [sm_ib, Bool.and_eq_true, decide_eq_true_eq] at h
    exact h.2
  generalize i.toNatClampNeg = k at hl
  match k, hl with
  | 0, _ => exact hx sx_69
  | 1, _ => exact hx sx_70
  | 2, _ => exact hx sx_71
  | 3, _ => exact hx sx_72
  | 4, _ => exact hx sx_73
  | 5, _ => exact hx sx_74
  | 6, _ => exact hx sx_75
  | n + 7, h => exact absurd h (by omega)
abbrev md_X2_sizeOf : sm_Md := (RX2, cX2_sizeOf, 5, (some .int))
abbrev md_X2_isPossible : sm_Md := (RX2, cX2_isPossible, 3, (some .boolean))
abbrev md_X1_numberMask : sm_Md := (RX1, cX1_numberMask, 4, (some .int))
abbrev md_X1_mayFollow : sm_Md := (RX1, cX1_mayFollow, 4, (some .boolean))
abbrev md_X1_withLast : sm_Md := (RX1, cX1_withLast, 2, (some .int))
abbrev md_X1_lengthen : sm_Md := (RX1, cX1_lengthen, 8, none)
abbrev md_X1_fill : sm_Md := (RX1, cX1_fill, 5, none)
abbrev md_X2_fillCodes : sm_Md := (RX2, cX2_fillCodes, 3, none)
abbrev md_X2_become : sm_Md := (RX2, cX2_become, 4, none)
abbrev md_X1_withoutLast : sm_Md := (RX1, cX1_withoutLast, 1, (some .int))
abbrev md_X1_numberAt : sm_Md := (RX1, cX1_numberAt, 3, (some .int))
abbrev md_J6_bitCount_0f7a4 : sm_Md := (RJ6, cJ6_bitCount_0f7a4, 1, (some .int))
abbrev md_X1_orderPattern : sm_Md := (RX1, cX1_orderPattern, 6, (some .int))
abbrev md_X1_indexOf : sm_Md := (RX1, cX1_indexOf, 6, (some .int))
abbrev md_X4_vertexOf : sm_Md := (RX4, cX4_vertexOf, 5, (some .int))
abbrev md_X1_withoutFirst : sm_Md := (RX1, cX1_withoutFirst, 2, (some .int))
abbrev md_J7_fill_53178 : sm_Md := (RJ7, cJ7_fill_53178, 4, none)
abbrev md_X3_group : sm_Md := (RX3, cX3_group, 5, none)
abbrev md_X4_buildCircuit : sm_Md := (RX4, cX4_buildCircuit, 6, none)
abbrev md_X4_build : sm_Md := (RX4, cX4_build, 4, none)
abbrev md_X11_beginFamily : sm_Md := (RX11, cX11_beginFamily, 4, none)
abbrev md_X11_setFamily : sm_Md := (RX11, cX11_setFamily, 4, (some .int))
abbrev md_X11_elementCount : sm_Md := (RX11, cX11_elementCount, 1, (some .int))
abbrev md_X11_needElement : sm_Md := (RX11, cX11_needElement, 2, none)
abbrev md_X11_elementAt : sm_Md := (RX11, cX11_elementAt, 3, (some .int))
abbrev md_X2_hasSymbol : sm_Md := (RX2, cX2_hasSymbol, 2, (some .boolean))
abbrev md_X11_needSymbol : sm_Md := (RX11, cX11_needSymbol, 2, none)
abbrev md_X7_copyFrom : sm_Md := (RX7, cX7_copyFrom, 2, none)
abbrev md_X6_remember : sm_Md := (RX6, cX6_remember, 2, (some (.object "UniversalCycles$Row")))
abbrev md_X7_push : sm_Md := (RX7, cX7_push, 2, none)
abbrev md_X11_append : sm_Md := (RX11, cX11_append, 2, (some .int))
abbrev md_X11_needPosition : sm_Md := (RX11, cX11_needPosition, 2, none)
abbrev md_X11_setSymbol : sm_Md := (RX11, cX11_setSymbol, 4, (some .int))
abbrev md_X11_symbolAt : sm_Md := (RX11, cX11_symbolAt, 2, (some .int))
abbrev md_X11_length : sm_Md := (RX11, cX11_length, 1, (some .int))
abbrev md_X11_clear : sm_Md := (RX11, cX11_clear, 2, (some .int))
abbrev md_X6_takeInto : sm_Md := (RX6, cX6_takeInto, 2, none)
abbrev md_X11_undo : sm_Md := (RX11, cX11_undo, 1, (some .int))
abbrev md_X11_feed : sm_Md := (RX11, cX11_feed, 2, (some .int))
abbrev md_X11_read : sm_Md := (RX11, cX11_read, 3, (some .int))
abbrev md_X11_write : sm_Md := (RX11, cX11_write, 2, (some .int))
abbrev md_X11_outputAt : sm_Md := (RX11, cX11_outputAt, 2, (some .char))
abbrev md_X7_cyclicSymbol : sm_Md := (RX7, cX7_cyclicSymbol, 2, (some .int))
abbrev md_X1_ascending : sm_Md := (RX1, cX1_ascending, 3, (some .int))
abbrev md_X2_shownBy : sm_Md := (RX2, cX2_shownBy, 5, (some .int))
abbrev md_X11_shownAt : sm_Md := (RX11, cX11_shownAt, 2, (some .int))
abbrev md_X10_lookAt : sm_Md := (RX10, cX10_lookAt, 5, none)
abbrev md_X11_occurrences : sm_Md := (RX11, cX11_occurrences, 2, (some .int))
abbrev md_X11_locate : sm_Md := (RX11, cX11_locate, 2, (some .int))
abbrev md_X10_invalidPosition : sm_Md := (RX10, cX10_invalidPosition, 2, (some .int))
abbrev md_X11_firstInvalid : sm_Md := (RX11, cX11_firstInvalid, 1, (some .int))
abbrev md_X10_repeatPosition : sm_Md := (RX10, cX10_repeatPosition, 3, (some .int))
abbrev md_X11_firstRepeat : sm_Md := (RX11, cX11_firstRepeat, 1, (some .int))
abbrev md_X10_missingElement : sm_Md := (RX10, cX10_missingElement, 2, (some .int))
abbrev md_X11_firstMissing : sm_Md := (RX11, cX11_firstMissing, 1, (some .int))
abbrev md_X11_isUniversal : sm_Md := (RX11, cX11_isUniversal, 1, (some .boolean))
abbrev md_X10_bitsFrom : sm_Md := (RX10, cX10_bitsFrom, 5, (some .long))
abbrev md_X11_shownBits : sm_Md := (RX11, cX11_shownBits, 2, (some .long))
abbrev md_X10_lengthenRun : sm_Md := (RX10, cX10_lengthenRun, 6, (some .int))
abbrev md_X10_findRun : sm_Md := (RX10, cX10_findRun, 3, none)
abbrev md_X11_longestRun : sm_Md := (RX11, cX11_longestRun, 1, (some .int))
abbrev md_X11_needSequence : sm_Md := (RX11, cX11_needSequence, 1, none)
abbrev md_X11_longestRunStart : sm_Md := (RX11, cX11_longestRunStart, 1, (some .int))
abbrev md_X7_symbolMask : sm_Md := (RX7, cX7_symbolMask, 3, (some .int))
abbrev md_X11_distinctSymbols : sm_Md := (RX11, cX11_distinctSymbols, 1, (some .int))
abbrev md_X11_compress : sm_Md := (RX11, cX11_compress, 4, (some .int))
abbrev md_X11_turnTo : sm_Md := (RX11, cX11_turnTo, 4, (some .int))
abbrev md_X11_rotate : sm_Md := (RX11, cX11_rotate, 2, (some .int))
abbrev md_X7_isLowerRotation : sm_Md := (RX7, cX7_isLowerRotation, 5, (some .boolean))
abbrev md_X7_lowestRotation : sm_Md := (RX7, cX7_lowestRotation, 3, (some .int))
abbrev md_X11_rotateToLowest : sm_Md := (RX11, cX11_rotateToLowest, 2, (some .int))
abbrev md_X11_reverse : sm_Md := (RX11, cX11_reverse, 3, (some .int))
abbrev md_X11_complement : sm_Md := (RX11, cX11_complement, 2, (some .int))
abbrev md_X11_exchange : sm_Md := (RX11, cX11_exchange, 6, (some .int))
abbrev md_X5_markWindows : sm_Md := (RX5, cX5_markWindows, 5, none)
abbrev md_X5_extendByOne : sm_Md := (RX5, cX5_extendByOne, 5, (some .boolean))
abbrev md_X5_extend : sm_Md := (RX5, cX5_extend, 5, none)
abbrev md_X11_extendGreedily : sm_Md := (RX11, cX11_extendGreedily, 2, (some .int))
abbrev md_X8_begin : sm_Md := (RX8, cX8_begin, 3, none)
abbrev md_X8_highestDecided : sm_Md := (RX8, cX8_highestDecided, 2, (some .int))
abbrev md_X8_lowestDecided : sm_Md := (RX8, cX8_lowestDecided, 2, (some .int))
abbrev md_X8_claimWindows : sm_Md := (RX8, cX8_claimWindows, 6, (some .boolean))
abbrev md_X8_releaseWindows : sm_Md := (RX8, cX8_releaseWindows, 5, none)
abbrev md_X8_goBack : sm_Md := (RX8, cX8_goBack, 4, (some .int))
abbrev md_X8_run : sm_Md := (RX8, cX8_run, 6, (some .int))
abbrev md_X11_search : sm_Md := (RX11, cX11_search, 3, (some .int))
abbrev md_X11_needGraph : sm_Md := (RX11, cX11_needGraph, 1, none)
abbrev md_X11_vertexCount : sm_Md := (RX11, cX11_vertexCount, 1, (some .int))
abbrev md_X11_edgeEnd : sm_Md := (RX11, cX11_edgeEnd, 3, (some .int))
abbrev md_X11_needVertex : sm_Md := (RX11, cX11_needVertex, 2, none)
abbrev md_X3_degree : sm_Md := (RX3, cX3_degree, 2, (some .int))
abbrev md_X11_inDegree : sm_Md := (RX11, cX11_inDegree, 2, (some .int))
abbrev md_X4_spread : sm_Md := (RX4, cX4_spread, 10, none)
abbrev md_X4_walkLength : sm_Md := (RX4, cX4_walkLength, 3, (some .int))
abbrev md_X11_distance : sm_Md := (RX11, cX11_distance, 4, (some .int))
abbrev md_X4_lowestOfComponent : sm_Md := (RX4, cX4_lowestOfComponent, 3, (some .int))
abbrev md_X11_componentOf : sm_Md := (RX11, cX11_componentOf, 2, (some .int))
abbrev md_X11_needCircuit : sm_Md := (RX11, cX11_needCircuit, 1, none)
abbrev md_J7_fill_d0a16 : sm_Md := (RJ7, cJ7_fill_d0a16, 5, none)
abbrev md_X0_fillMatrix : sm_Md := (RX0, cX0_fillMatrix, 6, none)
abbrev md_X0_determinant : sm_Md := (RX0, cX0_determinant, 11, (some .long))
abbrev md_X0_count : sm_Md := (RX0, cX0_count, 7, (some .long))
abbrev md_X11_circuitCount : sm_Md := (RX11, cX11_circuitCount, 3, (some .long))
abbrev md_X11_circuitEdge : sm_Md := (RX11, cX11_circuitEdge, 2, (some .int))
abbrev md_X9_raiseWindow : sm_Md := (RX9, cX9_raiseWindow, 10, (some .boolean))
abbrev md_X9_highestSymbol : sm_Md := (RX9, cX9_highestSymbol, 3, (some .int))
abbrev md_X9_unfoldPatterns : sm_Md := (RX9, cX9_unfoldPatterns, 8, (some .boolean))
abbrev md_X9_unfold : sm_Md := (RX9, cX9_unfold, 5, (some .boolean))
abbrev md_X11_useCircuit : sm_Md := (RX11, cX11_useCircuit, 1, (some .int))
abbrev md_X11_save : sm_Md := (RX11, cX11_save, 1, (some .int))
abbrev md_X11_restore : sm_Md := (RX11, cX11_restore, 1, (some .int))
abbrev md_X12_isIn : sm_Md := (RX12, cX12_isIn, 3, (some .boolean))
abbrev md_X12_thrown : sm_Md := (RX12, cX12_thrown, 1, (some .int))
abbrev md_X12_fail : sm_Md := (RX12, cX12_fail, 2, (some .int))
abbrev md_X12_countOf : sm_Md := (RX12, cX12_countOf, 5, (some .int))
abbrev md_X12_digit : sm_Md := (RX12, cX12_digit, 5, (some .int))
abbrev md_X12_isOfKind : sm_Md := (RX12, cX12_isOfKind, 8, (some .boolean))
abbrev md_X12_codes : sm_Md := (RX12, cX12_codes, 3, (some .int))
abbrev md_X12_endOf : sm_Md := (RX12, cX12_endOf, 8, (some .int))
abbrev md_X12_fill : sm_Md := (RX12, cX12_fill, 3, none)
abbrev md_X12_setFamily : sm_Md := (RX12, cX12_setFamily, 5, (some .int))
abbrev md_X12_elementCount : sm_Md := (RX12, cX12_elementCount, 1, (some .int))
abbrev md_X12_isElement : sm_Md := (RX12, cX12_isElement, 2, (some .boolean))
abbrev md_X12_elementAt : sm_Md := (RX12, cX12_elementAt, 3, (some .int))
abbrev md_X12_isSymbol : sm_Md := (RX12, cX12_isSymbol, 2, (some .boolean))
abbrev md_X12_isPosition : sm_Md := (RX12, cX12_isPosition, 2, (some .boolean))
abbrev md_X12_record : sm_Md := (RX12, cX12_record, 3, none)
abbrev md_X12_replace : sm_Md := (RX12, cX12_replace, 3, none)
abbrev md_X12_append : sm_Md := (RX12, cX12_append, 2, (some .int))
abbrev md_X12_setSymbol : sm_Md := (RX12, cX12_setSymbol, 4, (some .int))
abbrev md_X12_symbolAt : sm_Md := (RX12, cX12_symbolAt, 2, (some .int))
abbrev md_X12_length : sm_Md := (RX12, cX12_length, 1, (some .int))
abbrev md_X12_clear : sm_Md := (RX12, cX12_clear, 2, (some .int))
abbrev md_X12_undo : sm_Md := (RX12, cX12_undo, 2, (some .int))
abbrev md_X12_feed : sm_Md := (RX12, cX12_feed, 2, (some .int))
abbrev md_X12_read : sm_Md := (RX12, cX12_read, 3, (some .int))
abbrev md_X12_write : sm_Md := (RX12, cX12_write, 2, (some .int))
abbrev md_X12_outputAt : sm_Md := (RX12, cX12_outputAt, 2, (some .char))
abbrev md_X12_sortedCode : sm_Md := (RX12, cX12_sortedCode, 4, (some .int))
abbrev md_X12_shown : sm_Md := (RX12, cX12_shown, 5, (some .int))
abbrev md_X12_shows : sm_Md := (RX12, cX12_shows, 3, (some .int))
abbrev md_X12_shownAt : sm_Md := (RX12, cX12_shownAt, 2, (some .int))
abbrev md_X12_countOf_ : sm_Md := (RX12, cX12_countOf_, 4, (some .int))
abbrev md_X12_occurrences : sm_Md := (RX12, cX12_occurrences, 2, (some .int))
abbrev md_X12_firstWith : sm_Md := (RX12, cX12_firstWith, 3, (some .int))
abbrev md_X12_locate : sm_Md := (RX12, cX12_locate, 3, (some .int))
abbrev md_X12_firstInvalid : sm_Md := (RX12, cX12_firstInvalid, 1, (some .int))
abbrev md_X12_firstRepeat : sm_Md := (RX12, cX12_firstRepeat, 3, (some .int))
abbrev md_X12_firstMissing : sm_Md := (RX12, cX12_firstMissing, 2, (some .int))
abbrev md_X12_isUniversal : sm_Md := (RX12, cX12_isUniversal, 1, (some .boolean))
abbrev md_X12_shownBits : sm_Md := (RX12, cX12_shownBits, 6, (some .long))
abbrev md_X12_runFrom : sm_Md := (RX12, cX12_runFrom, 4, (some .int))
abbrev md_X12_bestStart : sm_Md := (RX12, cX12_bestStart, 3, (some .int))
abbrev md_X12_longestRun : sm_Md := (RX12, cX12_longestRun, 1, (some .int))
abbrev md_X12_longestRunStart : sm_Md := (RX12, cX12_longestRunStart, 1, (some .int))
abbrev md_X12_lessThan : sm_Md := (RX12, cX12_lessThan, 6, (some .int))
abbrev md_X12_distinctSymbols : sm_Md := (RX12, cX12_distinctSymbols, 1, (some .int))
abbrev md_X12_compress : sm_Md := (RX12, cX12_compress, 2, (some .int))
abbrev md_X12_makeRotated : sm_Md := (RX12, cX12_makeRotated, 3, none)
abbrev md_X12_rotate : sm_Md := (RX12, cX12_rotate, 3, (some .int))
abbrev md_X12_isLower : sm_Md := (RX12, cX12_isLower, 6, (some .boolean))
abbrev md_X12_rotateToLowest : sm_Md := (RX12, cX12_rotateToLowest, 3, (some .int))
abbrev md_X12_reverse : sm_Md := (RX12, cX12_reverse, 2, (some .int))
abbrev md_X12_complement : sm_Md := (RX12, cX12_complement, 2, (some .int))
abbrev md_X12_exchange : sm_Md := (RX12, cX12_exchange, 6, (some .int))
abbrev md_X12_endShows : sm_Md := (RX12, cX12_endShows, 3, (some .int))
abbrev md_X12_see : sm_Md := (RX12, cX12_see, 2, none)
abbrev md_X12_greatest : sm_Md := (RX12, cX12_greatest, 4, (some .int))
abbrev md_X12_extendGreedily : sm_Md := (RX12, cX12_extendGreedily, 4, (some .int))
abbrev md_X12_isNew : sm_Md := (RX12, cX12_isNew, 3, (some .boolean))
abbrev md_X12_isGood : sm_Md := (RX12, cX12_isGood, 4, (some .boolean))
abbrev md_X12_search : sm_Md := (RX12, cX12_search, 6, (some .int))
abbrev md_X12_isVertex : sm_Md := (RX12, cX12_isVertex, 2, (some .boolean))
abbrev md_X12_vertexCount : sm_Md := (RX12, cX12_vertexCount, 1, (some .int))
abbrev md_X12_edgeEnd : sm_Md := (RX12, cX12_edgeEnd, 3, (some .int))
abbrev md_X12_inDegree : sm_Md := (RX12, cX12_inDegree, 4, (some .int))
abbrev md_X12_findDistances : sm_Md := (RX12, cX12_findDistances, 4, none)
abbrev md_X12_distance : sm_Md := (RX12, cX12_distance, 3, (some .int))
abbrev md_X12_componentOf : sm_Md := (RX12, cX12_componentOf, 4, (some .int))
abbrev md_X12_findCircuit : sm_Md := (RX12, cX12_findCircuit, 4, (some .boolean))
abbrev md_X12_minor : sm_Md := (RX12, cX12_minor, 7, (some .long))
abbrev md_X12_circuitCount : sm_Md := (RX12, cX12_circuitCount, 6, (some .long))
abbrev md_X12_circuitEdge : sm_Md := (RX12, cX12_circuitEdge, 2, (some .int))
abbrev md_X12_order : sm_Md := (RX12, cX12_order, 10, (some .boolean))
abbrev md_X12_useCircuit : sm_Md := (RX12, cX12_useCircuit, 2, (some .int))
abbrev md_X12_save : sm_Md := (RX12, cX12_save, 2, (some .int))
abbrev md_X12_restore : sm_Md := (RX12, cX12_restore, 2, (some .int))
theorem pn_J6 : plainName RJ6 = true := by decide +kernel
theorem pn_J7 : plainName RJ7 = true := by decide +kernel
theorem pn_X0 : plainName RX0 = true := by decide +kernel
theorem pn_X1 : plainName RX1 = true := by decide +kernel
theorem pn_X10 : plainName RX10 = true := by decide +kernel
theorem pn_X11 : plainName RX11 = true := by decide +kernel
theorem pn_X12 : plainName RX12 = true := by decide +kernel
theorem pn_X2 : plainName RX2 = true := by decide +kernel
theorem pn_X3 : plainName RX3 = true := by decide +kernel
theorem pn_X4 : plainName RX4 = true := by decide +kernel
theorem pn_X5 : plainName RX5 = true := by decide +kernel
theorem pn_X6 : plainName RX6 = true := by decide +kernel
theorem pn_X7 : plainName RX7 = true := by decide +kernel
theorem pn_X8 : plainName RX8 = true := by decide +kernel
theorem pn_X9 : plainName RX9 = true := by decide +kernel
theorem cb_11 : (Int8.ofInt 11).toInt32 = 11 := by decide
theorem cb_12 : (Int8.ofInt 12).toInt32 = 12 := by decide
theorem cb_16 : (Int8.ofInt 16).toInt32 = 16 := by decide
theorem cb_48 : (Int8.ofInt 48).toInt32 = 48 := by decide
theorem cb_49 : (Int8.ofInt 49).toInt32 = 49 := by decide
theorem cb_50 : (Int8.ofInt 50).toInt32 = 50 := by decide
theorem cb_63 : (Int8.ofInt 63).toInt32 = 63 := by decide
theorem cb_64 : (Int8.ofInt 64).toInt32 = 64 := by decide
theorem cb_7 : (Int8.ofInt 7).toInt32 = 7 := by decide
theorem cb_8 : (Int8.ofInt 8).toInt32 = 8 := by decide
theorem cb_9 : (Int8.ofInt 9).toInt32 = 9 := by decide
theorem cb_m100 : (Int8.ofInt (-100)).toInt32 = (-100) := by decide
theorem cb_m2 : (Int8.ofInt (-2)).toInt32 = (-2) := by decide
theorem ci_0 : Int32.ofInt 0 = 0 := by decide
theorem ci_1 : Int32.ofInt 1 = 1 := by decide
theorem ci_2 : Int32.ofInt 2 = 2 := by decide
theorem ci_3 : Int32.ofInt 3 = 3 := by decide
theorem ci_4 : Int32.ofInt 4 = 4 := by decide
theorem ci_5 : Int32.ofInt 5 = 5 := by decide
theorem ci_m1 : Int32.ofInt (-1) = (-1) := by decide
theorem cl_0 : Int64.ofNat ((0 : Fin 2) : Nat) = 0 := by decide
theorem cl_1 : Int64.ofNat ((1 : Fin 2) : Nat) = 1 := by decide
theorem cs_200 : (Int16.ofInt 200).toInt32 = 200 := by decide
theorem cs_201 : (Int16.ofInt 201).toInt32 = 201 := by decide
theorem cs_240 : (Int16.ofInt 240).toInt32 = 240 := by decide
theorem cs_30000 : (Int16.ofInt 30000).toInt32 = 30000 := by decide
theorem cz_200 : Int32.ofNat 200 = 200 := by decide
theorem cz_240 : Int32.ofNat 240 = 240 := by decide
theorem ii_1 (x : Int32) : x + Int32.ofInt 1 = x + 1 := rfl
theorem ii_m1 (x : Int32) : x + Int32.ofInt (-1) = x + (-1) := rfl
