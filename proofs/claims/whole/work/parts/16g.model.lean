/-! ===== methods, decompiled: 16g.model ===== -/
/-! UniversalCyclesModel.search(I)I -/
theorem d_X12_search_0 : decode cX12_search 0 = .ok (.aload_n 0, 1) := by decide +kernel
theorem d_X12_search_1 : decode cX12_search 1 = .ok (.iconst 0, 1) := by decide +kernel
theorem d_X12_search_2 : decode cX12_search 2 = .ok (.putfield 1, 3) := by decide +kernel
theorem d_X12_search_5 : decode cX12_search 5 = .ok (.iload_n 1, 1) := by decide +kernel
theorem d_X12_search_6 : decode cX12_search 6 = .ok (.iconst 1, 1) := by decide +kernel
theorem d_X12_search_7 : decode cX12_search 7 = .ok (.sipush 30000, 3) := by decide +kernel
theorem d_X12_search_10 : decode cX12_search 10 = .ok (.invokestatic 115, 3) := by decide +kernel
theorem d_X12_search_13 : decode cX12_search 13 = .ok (.ifCond .ne 9, 3) := by decide +kernel
theorem d_X12_search_16 : decode cX12_search 16 = .ok (.aload_n 0, 1) := by decide +kernel
theorem d_X12_search_17 : decode cX12_search 17 = .ok (.iconst 1, 1) := by decide +kernel
theorem d_X12_search_18 : decode cX12_search 18 = .ok (.invokevirtual 122, 3) := by decide +kernel
theorem d_X12_search_21 : decode cX12_search 21 = .ok (.ireturn, 1) := by decide +kernel
theorem d_X12_search_22 : decode cX12_search 22 = .ok (.iconst 0, 1) := by decide +kernel
theorem d_X12_search_23 : decode cX12_search 23 = .ok (.istore_n 2, 1) := by decide +kernel
theorem d_X12_search_24 : decode cX12_search 24 = .ok (.iconst 0, 1) := by decide +kernel
theorem d_X12_search_25 : decode cX12_search 25 = .ok (.istore_n 3, 1) := by decide +kernel
theorem d_X12_search_26 : decode cX12_search 26 = .ok (.iconst 0, 1) := by decide +kernel
theorem d_X12_search_27 : decode cX12_search 27 = .ok (.istore 4, 2) := by decide +kernel
theorem d_X12_search_29 : decode cX12_search 29 = .ok (.iload_n 3, 1) := by decide +kernel
theorem d_X12_search_30 : decode cX12_search 30 = .ok (.aload_n 0, 1) := by decide +kernel
theorem d_X12_search_31 : decode cX12_search 31 = .ok (.getfield 97, 3) := by decide +kernel
theorem d_X12_search_34 : decode cX12_search 34 = .ok (.if_icmp .ge 98, 3) := by decide +kernel
theorem d_X12_search_37 : decode cX12_search 37 = .ok (.iload 4, 2) := by decide +kernel
theorem d_X12_search_39 : decode cX12_search 39 = .ok (.aload_n 0, 1) := by decide +kernel
theorem d_X12_search_40 : decode cX12_search 40 = .ok (.getfield 16, 3) := by decide +kernel
theorem d_X12_search_43 : decode cX12_search 43 = .ok (.if_icmp .ne 29, 3) := by decide +kernel
theorem d_X12_search_46 : decode cX12_search 46 = .ok (.iinc 3 (-1), 3) := by decide +kernel
theorem d_X12_search_49 : decode cX12_search 49 = .ok (.iload_n 3, 1) := by decide +kernel
theorem d_X12_search_50 : decode cX12_search 50 = .ok (.ifCond .ge 9, 3) := by decide +kernel
theorem d_X12_search_53 : decode cX12_search 53 = .ok (.aload_n 0, 1) := by decide +kernel
theorem d_X12_search_54 : decode cX12_search 54 = .ok (.iconst 3, 1) := by decide +kernel
theorem d_X12_search_55 : decode cX12_search 55 = .ok (.invokevirtual 122, 3) := by decide +kernel
theorem d_X12_search_58 : decode cX12_search 58 = .ok (.ireturn, 1) := by decide +kernel
theorem d_X12_search_59 : decode cX12_search 59 = .ok (.aload_n 0, 1) := by decide +kernel
theorem d_X12_search_60 : decode cX12_search 60 = .ok (.getfield 45, 3) := by decide +kernel
theorem d_X12_search_63 : decode cX12_search 63 = .ok (.iload_n 3, 1) := by decide +kernel
theorem d_X12_search_64 : decode cX12_search 64 = .ok (.iaload, 1) := by decide +kernel
theorem d_X12_search_65 : decode cX12_search 65 = .ok (.iconst 1, 1) := by decide +kernel
theorem d_X12_search_66 : decode cX12_search 66 = .ok (.iadd, 1) := by decide +kernel
theorem d_X12_search_67 : decode cX12_search 67 = .ok (.istore 4, 2) := by decide +kernel
theorem d_X12_search_69 : decode cX12_search 69 = .ok (.goto (-40), 3) := by decide +kernel
theorem d_X12_search_72 : decode cX12_search 72 = .ok (.iload_n 2, 1) := by decide +kernel
theorem d_X12_search_73 : decode cX12_search 73 = .ok (.iload_n 1, 1) := by decide +kernel
theorem d_X12_search_74 : decode cX12_search 74 = .ok (.if_icmp .ne 9, 3) := by decide +kernel
theorem d_X12_search_77 : decode cX12_search 77 = .ok (.aload_n 0, 1) := by decide +kernel
theorem d_X12_search_78 : decode cX12_search 78 = .ok (.iconst 2, 1) := by decide +kernel
theorem d_X12_search_79 : decode cX12_search 79 = .ok (.invokevirtual 122, 3) := by decide +kernel
theorem d_X12_search_82 : decode cX12_search 82 = .ok (.ireturn, 1) := by decide +kernel
theorem d_X12_search_83 : decode cX12_search 83 = .ok (.iinc 2 1, 3) := by decide +kernel
theorem d_X12_search_86 : decode cX12_search 86 = .ok (.aload_n 0, 1) := by decide +kernel
theorem d_X12_search_87 : decode cX12_search 87 = .ok (.getfield 45, 3) := by decide +kernel
theorem d_X12_search_90 : decode cX12_search 90 = .ok (.iload_n 3, 1) := by decide +kernel
theorem d_X12_search_91 : decode cX12_search 91 = .ok (.iload 4, 2) := by decide +kernel
theorem d_X12_search_93 : decode cX12_search 93 = .ok (.iastore, 1) := by decide +kernel
theorem d_X12_search_94 : decode cX12_search 94 = .ok (.aload_n 0, 1) := by decide +kernel
theorem d_X12_search_95 : decode cX12_search 95 = .ok (.iload_n 3, 1) := by decide +kernel
theorem d_X12_search_96 : decode cX12_search 96 = .ok (.invokevirtual 204, 3) := by decide +kernel
theorem d_X12_search_99 : decode cX12_search 99 = .ok (.istore 5, 2) := by decide +kernel
theorem d_X12_search_101 : decode cX12_search 101 = .ok (.iload_n 3, 1) := by decide +kernel
theorem d_X12_search_102 : decode cX12_search 102 = .ok (.iload 5, 2) := by decide +kernel
theorem d_X12_search_104 : decode cX12_search 104 = .ok (.ifCond .eq 7, 3) := by decide +kernel
theorem d_X12_search_107 : decode cX12_search 107 = .ok (.iconst 1, 1) := by decide +kernel
theorem d_X12_search_108 : decode cX12_search 108 = .ok (.goto 4, 3) := by decide +kernel
theorem d_X12_search_111 : decode cX12_search 111 = .ok (.iconst 0, 1) := by decide +kernel
theorem d_X12_search_112 : decode cX12_search 112 = .ok (.iadd, 1) := by decide +kernel
theorem d_X12_search_113 : decode cX12_search 113 = .ok (.istore_n 3, 1) := by decide +kernel
theorem d_X12_search_114 : decode cX12_search 114 = .ok (.iload 5, 2) := by decide +kernel
theorem d_X12_search_116 : decode cX12_search 116 = .ok (.ifCond .eq 7, 3) := by decide +kernel
theorem d_X12_search_119 : decode cX12_search 119 = .ok (.iconst 0, 1) := by decide +kernel
theorem d_X12_search_120 : decode cX12_search 120 = .ok (.goto 7, 3) := by decide +kernel
theorem d_X12_search_123 : decode cX12_search 123 = .ok (.iload 4, 2) := by decide +kernel
theorem d_X12_search_125 : decode cX12_search 125 = .ok (.iconst 1, 1) := by decide +kernel
theorem d_X12_search_126 : decode cX12_search 126 = .ok (.iadd, 1) := by decide +kernel
theorem d_X12_search_127 : decode cX12_search 127 = .ok (.istore 4, 2) := by decide +kernel
theorem d_X12_search_129 : decode cX12_search 129 = .ok (.goto (-100), 3) := by decide +kernel
theorem d_X12_search_132 : decode cX12_search 132 = .ok (.aload_n 0, 1) := by decide +kernel
theorem d_X12_search_133 : decode cX12_search 133 = .ok (.aload_n 0, 1) := by decide +kernel
theorem d_X12_search_134 : decode cX12_search 134 = .ok (.getfield 97, 3) := by decide +kernel
theorem d_X12_search_137 : decode cX12_search 137 = .ok (.invokevirtual 144, 3) := by decide +kernel
theorem d_X12_search_140 : decode cX12_search 140 = .ok (.iload_n 2, 1) := by decide +kernel
theorem d_X12_search_141 : decode cX12_search 141 = .ok (.ireturn, 1) := by decide +kernel
def f_X12_search_127 (F : Nat) (kb29 : Int32 → Int32 → Int32 → Int32 → sm_M → Option (Int32 × sm_M)) (x1 : Int32) (x2 : Int32) (x3 : Int32) (y0 : Int32) (M : sm_M) : Option (Int32 × sm_M) := kb29 x1 x2 x3 y0 M
set_option maxRecDepth 100000 in
set_option maxHeartbeats 4000000 in
theorem j_X12_search_127 {sk : List sm_Sh} (hx : sm_ext skM sk) (F : Nat) (kb29 : Int32 → Int32 → Int32 → Int32 → sm_M → Option (Int32 × sm_M)) (hkb29 : ∀ (x1 : Int32) (x2 : Int32) (x3 : Int32) (x4 : Int32) (M : sm_M) (r : Int32 × sm_M), kb29 x1 x2 x3 x4 M = some r → sm_J (md_X12_search, 4, sk, .inl (some (.int r.1)), r.2) 29 [some (.ref 80), some (.int x1), some (.int x2), some (.int x3), some (.int x4), none] [] M) : ∀ (x1 : Int32) (x2 : Int32) (x3 : Int32) (y0 : Int32) (M : sm_M) (r : Int32 × sm_M), f_X12_search_127 F kb29 x1 x2 x3 y0 M = some r → sm_J (md_X12_search, 4, sk, .inl (some (.int r.1)), r.2) 127 [some (.ref 80), some (.int x1), some (.int x2), some (.int x3), none, none] [.int y0] M := by
  intro x1 x2 x3 y0  M r h
  unfold f_X12_search_127 at h
  refine sm_istore (q := 129) (lt := [some (.ref 80), some (.int x1), some (.int x2), some (.int x3), some (.int y0), none]) d_X12_search_127 rfl (Nat.le_of_ble_eq_true rfl) rfl rfl ?_
  refine sm_goto (t := 29) d_X12_search_129 rfl ?_
  exact hkb29 x1 x2 x3 y0 M _ h
def f_X12_search_112 (F : Nat) (kb29 : Int32 → Int32 → Int32 → Int32 → sm_M → Option (Int32 × sm_M)) (x1 : Int32) (x2 : Int32) (x4 : Int32) (x5 : Int32) (y0 : Int32) (y1 : Int32) (M : sm_M) : Option (Int32 × sm_M) := if x5 = 0 then (f_X12_search_127 F kb29 x1 x2 (y0 + y1) (x4 + (1 : Int32)) M) else (f_X12_search_127 F kb29 x1 x2 (y0 + y1) (0 : Int32) M)
set_option maxRecDepth 100000 in
set_option maxHeartbeats 4000000 in
theorem j_X12_search_112 {sk : List sm_Sh} (hx : sm_ext skM sk) (F : Nat) (kb29 : Int32 → Int32 → Int32 → Int32 → sm_M → Option (Int32 × sm_M)) (hkb29 : ∀ (x1 : Int32) (x2 : Int32) (x3 : Int32) (x4 : Int32) (M : sm_M) (r : Int32 × sm_M), kb29 x1 x2 x3 x4 M = some r → sm_J (md_X12_search, 4, sk, .inl (some (.int r.1)), r.2) 29 [some (.ref 80), some (.int x1), some (.int x2), some (.int x3), some (.int x4), none] [] M) : ∀ (x1 : Int32) (x2 : Int32) (x4 : Int32) (x5 : Int32) (y0 : Int32) (y1 : Int32) (M : sm_M) (r : Int32 × sm_M), f_X12_search_112 F kb29 x1 x2 x4 x5 y0 y1 M = some r → sm_J (md_X12_search, 4, sk, .inl (some (.int r.1)), r.2) 112 [some (.ref 80), some (.int x1), some (.int x2), none, some (.int x4), some (.int x5)] [.int y1, .int y0] M := by
  intro x1 x2 x4 x5 y0 y1  M r h
  unfold f_X12_search_112 at h
  refine sm_iadd (q := 113) d_X12_search_112 rfl ?_
  refine sm_istore_n (q := 114) (lt := [some (.ref 80), some (.int x1), some (.int x2), some (.int (y0 + y1)), some (.int x4), some (.int x5)]) d_X12_search_113 rfl (Nat.le_of_ble_eq_true rfl) rfl rfl ?_
  refine sm_iload (q := 116) d_X12_search_114 rfl rfl ?_
  refine sm_if_eq (q := 119) (t := 123) d_X12_search_116 rfl rfl (fun c1 => ?_) (fun c1 => ?_)
  · replace h := sm_it c1 h
    refine sm_iload (q := 125) d_X12_search_123 rfl rfl ?_
    refine sm_iconst (q := 126) d_X12_search_125 rfl ci_1 ?_
    refine sm_iadd (q := 127) d_X12_search_126 rfl ?_
    refine sm_fg [4, 5] ?_
    exact j_X12_search_127 hx F kb29 hkb29 x1 x2 (y0 + y1) (x4 + (1 : Int32)) M _ h
  · replace h := sm_if c1 h
    refine sm_iconst (q := 120) d_X12_search_119 rfl ci_0 ?_
    refine sm_goto (t := 127) d_X12_search_120 rfl ?_
    refine sm_fg [4, 5] ?_
    exact j_X12_search_127 hx F kb29 hkb29 x1 x2 (y0 + y1) (0 : Int32) M _ h
def f_X12_search_29b (F : Nat) (kb29 : Int32 → Int32 → Int32 → Int32 → sm_M → Option (Int32 × sm_M)) (x1 : Int32) (x2 : Int32) (x3 : Int32) (x4 : Int32) (M : sm_M) : Option (Int32 × sm_M) := if (M.1 80 5) ≤ x3 then ((f_X12_replace F (M.1 80 5) M).bind fun q2 => some (x2, q2)) else (if x4 = (M.1 80 3) then (if 0 ≤ (x3 + (-1)) then (sm_g (sm_ib (x3 + (-1)) 240) (kb29 x1 x2 (x3 + (-1)) ((M.1 89 (x3 + (-1)).toNatClampNeg) + (1 : Int32)) M)) else ((f_X12_fail F (3 : Int32) M).bind fun q11 => some (q11.1, q11.2))) else (if x2 = x1 then ((f_X12_fail F (2 : Int32) M).bind fun q8 => some (q8.1, q8.2)) else (sm_g (sm_ib x3 240) ((f_X12_isGood F x3 (sm_mi M 89 x3.toNatClampNeg x4)).bind fun q6 => if q6.1 = 0 then (f_X12_search_112 F kb29 x1 (x2 + 1) x4 q6.1 x3 (0 : Int32) q6.2) else (f_X12_search_112 F kb29 x1 (x2 + 1) x4 q6.1 x3 (1 : Int32) q6.2)))))
set_option maxRecDepth 100000 in
set_option maxHeartbeats 4000000 in
theorem j_X12_search_29b {sk : List sm_Sh} (hx : sm_ext skM sk) (F : Nat) (kb29 : Int32 → Int32 → Int32 → Int32 → sm_M → Option (Int32 × sm_M)) (hkb29 : ∀ (x1 : Int32) (x2 : Int32) (x3 : Int32) (x4 : Int32) (M : sm_M) (r : Int32 × sm_M), kb29 x1 x2 x3 x4 M = some r → sm_J (md_X12_search, 4, sk, .inl (some (.int r.1)), r.2) 29 [some (.ref 80), some (.int x1), some (.int x2), some (.int x3), some (.int x4), none] [] M) : ∀ (x1 : Int32) (x2 : Int32) (x3 : Int32) (x4 : Int32) (M : sm_M) (r : Int32 × sm_M), f_X12_search_29b F kb29 x1 x2 x3 x4 M = some r → sm_J (md_X12_search, 4, sk, .inl (some (.int r.1)), r.2) 29 [some (.ref 80), some (.int x1), some (.int x2), some (.int x3), some (.int x4), none] [] M := by
  intro x1 x2 x3 x4  M r h
  unfold f_X12_search_29b at h
  refine sm_iload_n (q := 30) d_X12_search_29 rfl rfl ?_
  refine sm_aload_n (q := 31) d_X12_search_30 rfl rfl ?_
  refine sm_geti (q := 34) d_X12_search_31 rfl fl_X12_97 (hx sx_80) rfl ?_
  refine sm_icmp_ge (q := 37) (t := 132) d_X12_search_34 rfl rfl (fun c1 => ?_) (fun c1 => ?_)
  · replace h := sm_it c1 h
    refine sm_aload_n (q := 133) d_X12_search_132 rfl rfl ?_
    refine sm_aload_n (q := 134) d_X12_search_133 rfl rfl ?_
    refine sm_geti (q := 137) d_X12_search_134 rfl fl_X12_97 (hx sx_80) rfl ?_
    obtain ⟨q2, e2, h⟩ := sm_bd h
    refine sm_callV (q := 140) (d' := 1) [] [.int (M.1 80 5)] d_X12_search_137 rfl lk_X12_144 (hx sx_80) rfl rfl rfl (Nat.le_of_ble_eq_true rfl) (Nat.le_of_ble_eq_true rfl) (c_X12_replace hx F (M.1 80 5) M _ e2) (st9 := []) rfl ?_
    refine sm_iload_n (q := 141) d_X12_search_140 rfl rfl ?_
    obtain rfl := Option.some.inj h
    exact sm_iret d_X12_search_141 rfl rfl rfl rfl
  · replace h := sm_if c1 h
    refine sm_iload (q := 39) d_X12_search_37 rfl rfl ?_
    refine sm_aload_n (q := 40) d_X12_search_39 rfl rfl ?_
    refine sm_geti (q := 43) d_X12_search_40 rfl fl_X12_16 (hx sx_80) rfl ?_
    refine sm_icmp_ne (q := 46) (t := 72) d_X12_search_43 rfl rfl (fun c3 => ?_) (fun c3 => ?_)
    · replace h := sm_if c3 h
      refine sm_iload_n (q := 73) d_X12_search_72 rfl rfl ?_
      refine sm_iload_n (q := 74) d_X12_search_73 rfl rfl ?_
      refine sm_icmp_ne (q := 77) (t := 83) d_X12_search_74 rfl rfl (fun c4 => ?_) (fun c4 => ?_)
      · replace h := sm_if c4 h
        refine sm_iinc (q := 86) (v := (x2 + 1)) (lt := [some (.ref 80), some (.int x1), some (.int (x2 + 1)), some (.int x3), some (.int x4), none]) d_X12_search_83 rfl rfl (ii_1 _) (Nat.le_of_ble_eq_true rfl) rfl rfl ?_
        refine sm_aload_n (q := 87) d_X12_search_86 rfl rfl ?_
        refine sm_getr (q := 90) d_X12_search_87 rfl fl_X12_45 (hx sx_80) rfl ?_
        refine sm_iload_n (q := 91) d_X12_search_90 rfl rfl ?_
        refine sm_iload (q := 93) d_X12_search_91 rfl rfl ?_
        obtain ⟨g5, h⟩ := sm_gt h
        refine sm_iastore (q := 94) d_X12_search_93 rfl (hx sx_89) (sm_ib_of g5) ?_
        refine sm_aload_n (q := 95) d_X12_search_94 rfl rfl ?_
        refine sm_iload_n (q := 96) d_X12_search_95 rfl rfl ?_
        obtain ⟨q6, e6, h⟩ := sm_bd h
        refine sm_callV (q := 99) (d' := 3) [] [.int x3] d_X12_search_96 rfl lk_X12_204 (hx sx_80) rfl rfl rfl (Nat.le_of_ble_eq_true rfl) (Nat.le_of_ble_eq_true rfl) (c_X12_isGood hx F x3 (sm_mi M 89 x3.toNatClampNeg x4) _ e6) (st9 := [.int q6.1]) rfl ?_
        refine sm_istore (q := 101) (lt := [some (.ref 80), some (.int x1), some (.int (x2 + 1)), some (.int x3), some (.int x4), some (.int q6.1)]) d_X12_search_99 rfl (Nat.le_of_ble_eq_true rfl) rfl rfl ?_
        refine sm_iload_n (q := 102) d_X12_search_101 rfl rfl ?_
        refine sm_iload (q := 104) d_X12_search_102 rfl rfl ?_
        refine sm_if_eq (q := 107) (t := 111) d_X12_search_104 rfl rfl (fun c7 => ?_) (fun c7 => ?_)
        · replace h := sm_it c7 h
          refine sm_iconst (q := 112) d_X12_search_111 rfl ci_0 ?_
          refine sm_fg [3] ?_
          exact j_X12_search_112 hx F kb29 hkb29 x1 (x2 + 1) x4 q6.1 x3 (0 : Int32) q6.2 _ h
        · replace h := sm_if c7 h
          refine sm_iconst (q := 108) d_X12_search_107 rfl ci_1 ?_
          refine sm_goto (t := 112) d_X12_search_108 rfl ?_
          refine sm_fg [3] ?_
          exact j_X12_search_112 hx F kb29 hkb29 x1 (x2 + 1) x4 q6.1 x3 (1 : Int32) q6.2 _ h
      · replace h := sm_it c4 h
        refine sm_aload_n (q := 78) d_X12_search_77 rfl rfl ?_
        refine sm_iconst (q := 79) d_X12_search_78 rfl ci_2 ?_
        obtain ⟨q8, e8, h⟩ := sm_bd h
        refine sm_callV (q := 82) (d' := 0) [] [.int (2 : Int32)] d_X12_search_79 rfl lk_X12_122 (hx sx_80) rfl rfl rfl (Nat.le_of_ble_eq_true rfl) (Nat.le_of_ble_eq_true rfl) (c_X12_fail hx F (2 : Int32) M _ e8) (st9 := [.int q8.1]) rfl ?_
        obtain rfl := Option.some.inj h
        exact sm_iret d_X12_search_82 rfl rfl rfl rfl
    · replace h := sm_it c3 h
      refine sm_iinc (q := 49) (v := (x3 + (-1))) (lt := [some (.ref 80), some (.int x1), some (.int x2), some (.int (x3 + (-1))), some (.int x4), none]) d_X12_search_46 rfl rfl (ii_m1 _) (Nat.le_of_ble_eq_true rfl) rfl rfl ?_
      refine sm_iload_n (q := 50) d_X12_search_49 rfl rfl ?_
      refine sm_if_ge (q := 53) (t := 59) d_X12_search_50 rfl rfl (fun c9 => ?_) (fun c9 => ?_)
      · replace h := sm_it c9 h
        refine sm_aload_n (q := 60) d_X12_search_59 rfl rfl ?_
        refine sm_getr (q := 63) d_X12_search_60 rfl fl_X12_45 (hx sx_80) rfl ?_
        refine sm_iload_n (q := 64) d_X12_search_63 rfl rfl ?_
        obtain ⟨g10, h⟩ := sm_gt h
        refine sm_iaload (q := 65) d_X12_search_64 rfl (hx sx_89) (sm_ib_of g10) ?_
        refine sm_iconst (q := 66) d_X12_search_65 rfl ci_1 ?_
        refine sm_iadd (q := 67) d_X12_search_66 rfl ?_
        refine sm_istore (q := 69) (lt := [some (.ref 80), some (.int x1), some (.int x2), some (.int (x3 + (-1))), some (.int ((M.1 89 (x3 + (-1)).toNatClampNeg) + (1 : Int32))), none]) d_X12_search_67 rfl (Nat.le_of_ble_eq_true rfl) rfl rfl ?_
        refine sm_goto (t := 29) d_X12_search_69 rfl ?_
        exact hkb29 x1 x2 (x3 + (-1)) ((M.1 89 (x3 + (-1)).toNatClampNeg) + (1 : Int32)) M _ h
      · replace h := sm_if c9 h
        refine sm_aload_n (q := 54) d_X12_search_53 rfl rfl ?_
        refine sm_iconst (q := 55) d_X12_search_54 rfl ci_3 ?_
        obtain ⟨q11, e11, h⟩ := sm_bd h
        refine sm_callV (q := 58) (d' := 0) [] [.int (3 : Int32)] d_X12_search_55 rfl lk_X12_122 (hx sx_80) rfl rfl rfl (Nat.le_of_ble_eq_true rfl) (Nat.le_of_ble_eq_true rfl) (c_X12_fail hx F (3 : Int32) M _ e11) (st9 := [.int q11.1]) rfl ?_
        obtain rfl := Option.some.inj h
        exact sm_iret d_X12_search_58 rfl rfl rfl rfl
def f_X12_search_29 (F : Nat) (n : Nat) : Int32 → Int32 → Int32 → Int32 → sm_M → Option (Int32 × sm_M) := match n with
 | 0 => fun _ _ _ _ _ => none
 | n + 1 => f_X12_search_29b F (f_X12_search_29 F n)
theorem j_X12_search_29 {sk : List sm_Sh} (hx : sm_ext skM sk) (F : Nat) : ∀ (n : Nat) (x1 : Int32) (x2 : Int32) (x3 : Int32) (x4 : Int32) (M : sm_M) (r : Int32 × sm_M), f_X12_search_29 F n x1 x2 x3 x4 M = some r → sm_J (md_X12_search, 4, sk, .inl (some (.int r.1)), r.2) 29 [some (.ref 80), some (.int x1), some (.int x2), some (.int x3), some (.int x4), none] [] M := by
  intro n
  induction n with
  | zero => intro x1 x2 x3 x4  M r h; exact nomatch (show (none : Option (Int32 × sm_M)) = some r from h)
  | succ n ih => exact j_X12_search_29b hx F (f_X12_search_29 F n) ih
def f_X12_search (F : Nat) (x1 : Int32) (M : sm_M) : Option (Int32 × sm_M) := (f_X12_isIn F x1 (1 : Int32) (30000 : Int32) (sm_mi M 80 0 (0 : Int32))).bind fun q1 => if q1 = 0 then ((f_X12_fail F (1 : Int32) (sm_mi M 80 0 (0 : Int32))).bind fun q3 => some (q3.1, q3.2)) else (f_X12_search_29 F F x1 (0 : Int32) (0 : Int32) (0 : Int32) ((sm_mi M 80 0 (0 : Int32))))
set_option maxRecDepth 100000 in
set_option maxHeartbeats 4000000 in
theorem j_X12_search {sk : List sm_Sh} (hx : sm_ext skM sk) (F : Nat) : ∀ (x1 : Int32) (M : sm_M) (r : Int32 × sm_M), f_X12_search F x1 M = some r → sm_J (md_X12_search, 4, sk, .inl (some (.int r.1)), r.2) 0 [some (.ref 80), some (.int x1), none, none, none, none] [] M := by
  intro x1  M r h
  unfold f_X12_search at h
  refine sm_aload_n (q := 1) d_X12_search_0 rfl rfl ?_
  refine sm_iconst (q := 2) d_X12_search_1 rfl ci_0 ?_
  refine sm_puti (q := 5) d_X12_search_2 rfl fw_X12_1 (hx sx_80) rfl rfl rfl ?_
  refine sm_iload_n (q := 6) d_X12_search_5 rfl rfl ?_
  refine sm_iconst (q := 7) d_X12_search_6 rfl ci_1 ?_
  refine sm_sipush (q := 10) d_X12_search_7 rfl cs_30000 ?_
  obtain ⟨q1, e1, h⟩ := sm_bd h
  refine sm_callS (q := 13) (d' := 0) [] [.int x1, .int (1 : Int32), .int (30000 : Int32)] d_X12_search_10 rfl lk_X12_115 rfl (Nat.le_of_ble_eq_true rfl) (Nat.le_of_ble_eq_true rfl) (c_X12_isIn hx F x1 (1 : Int32) (30000 : Int32) (sm_mi M 80 0 (0 : Int32)) _ e1) (st9 := [.int q1]) rfl ?_
  refine sm_if_ne (q := 16) (t := 22) d_X12_search_13 rfl rfl (fun c2 => ?_) (fun c2 => ?_)
  · replace h := sm_if c2 h
    refine sm_iconst (q := 23) d_X12_search_22 rfl ci_0 ?_
    refine sm_istore_n (q := 24) (lt := [some (.ref 80), some (.int x1), some (.int (0 : Int32)), none, none, none]) d_X12_search_23 rfl (Nat.le_of_ble_eq_true rfl) rfl rfl ?_
    refine sm_iconst (q := 25) d_X12_search_24 rfl ci_0 ?_
    refine sm_istore_n (q := 26) (lt := [some (.ref 80), some (.int x1), some (.int (0 : Int32)), some (.int (0 : Int32)), none, none]) d_X12_search_25 rfl (Nat.le_of_ble_eq_true rfl) rfl rfl ?_
    refine sm_iconst (q := 27) d_X12_search_26 rfl ci_0 ?_
    refine sm_istore (q := 29) (lt := [some (.ref 80), some (.int x1), some (.int (0 : Int32)), some (.int (0 : Int32)), some (.int (0 : Int32)), none]) d_X12_search_27 rfl (Nat.le_of_ble_eq_true rfl) rfl rfl ?_
    exact j_X12_search_29 hx F F x1 (0 : Int32) (0 : Int32) (0 : Int32) ((sm_mi M 80 0 (0 : Int32))) _ h
  · replace h := sm_it c2 h
    refine sm_aload_n (q := 17) d_X12_search_16 rfl rfl ?_
    refine sm_iconst (q := 18) d_X12_search_17 rfl ci_1 ?_
    obtain ⟨q3, e3, h⟩ := sm_bd h
    refine sm_callV (q := 21) (d' := 0) [] [.int (1 : Int32)] d_X12_search_18 rfl lk_X12_122 (hx sx_80) rfl rfl rfl (Nat.le_of_ble_eq_true rfl) (Nat.le_of_ble_eq_true rfl) (c_X12_fail hx F (1 : Int32) (sm_mi M 80 0 (0 : Int32)) _ e3) (st9 := [.int q3.1]) rfl ?_
    obtain rfl := Option.some.inj h
    exact sm_iret d_X12_search_21 rfl rfl rfl rfl
theorem c_X12_search {sk : List sm_Sh} (hx : sm_ext skM sk) (F : Nat) (x1 : Int32) (M : sm_M) (r : Int32 × sm_M) (h : f_X12_search F x1 M = some r) : sm_Ct yX12_search md_X12_search 4 sk [.ref 80, .int x1] M (.inl (some (.int r.1))) r.2 := sm_enter 4 pn_X12 rfl (Nat.le_of_ble_eq_true rfl) rfl (j_X12_search hx F x1 M r h)
/-! UniversalCyclesModel.isVertex(I)Z -/
theorem d_X12_isVertex_0 : decode cX12_isVertex 0 = .ok (.iload_n 1, 1) := by decide +kernel
theorem d_X12_isVertex_1 : decode cX12_isVertex 1 = .ok (.iconst 0, 1) := by decide +kernel
theorem d_X12_isVertex_2 : decode cX12_isVertex 2 = .ok (.aload_n 0, 1) := by decide +kernel
theorem d_X12_isVertex_3 : decode cX12_isVertex 3 = .ok (.getfield 100, 3) := by decide +kernel
theorem d_X12_isVertex_6 : decode cX12_isVertex 6 = .ok (.iconst 1, 1) := by decide +kernel
theorem d_X12_isVertex_7 : decode cX12_isVertex 7 = .ok (.isub, 1) := by decide +kernel
theorem d_X12_isVertex_8 : decode cX12_isVertex 8 = .ok (.invokestatic 115, 3) := by decide +kernel
theorem d_X12_isVertex_11 : decode cX12_isVertex 11 = .ok (.ireturn, 1) := by decide +kernel
def f_X12_isVertex (F : Nat) (x1 : Int32) (M : sm_M) : Option (Int32) := (f_X12_isIn F x1 (0 : Int32) ((M.1 80 7) - (1 : Int32)) M).bind fun q1 => sm_g (sm_nar .boolean q1) (some q1)
set_option maxRecDepth 100000 in
set_option maxHeartbeats 4000000 in
theorem j_X12_isVertex {sk : List sm_Sh} (hx : sm_ext skM sk) (F : Nat) : ∀ (x1 : Int32) (M : sm_M) (r : Int32), f_X12_isVertex F x1 M = some r → sm_J (md_X12_isVertex, 1, sk, .inl (some (.int r)), M) 0 [some (.ref 80), some (.int x1)] [] M := by
  intro x1  M r h
  unfold f_X12_isVertex at h
  refine sm_iload_n (q := 1) d_X12_isVertex_0 rfl rfl ?_
  refine sm_iconst (q := 2) d_X12_isVertex_1 rfl ci_0 ?_
  refine sm_aload_n (q := 3) d_X12_isVertex_2 rfl rfl ?_
  refine sm_geti (q := 6) d_X12_isVertex_3 rfl fl_X12_100 (hx sx_80) rfl ?_
  refine sm_iconst (q := 7) d_X12_isVertex_6 rfl ci_1 ?_
  refine sm_isub (q := 8) d_X12_isVertex_7 rfl ?_
  obtain ⟨q1, e1, h⟩ := sm_bd h
  refine sm_callS (q := 11) (d' := 0) [] [.int x1, .int (0 : Int32), .int ((M.1 80 7) - (1 : Int32))] d_X12_isVertex_8 rfl lk_X12_115 rfl (Nat.le_of_ble_eq_true rfl) (Nat.le_of_ble_eq_true rfl) (c_X12_isIn hx F x1 (0 : Int32) ((M.1 80 7) - (1 : Int32)) M _ e1) (st9 := [.int q1]) rfl ?_
  obtain ⟨g2, h⟩ := sm_gt h
  obtain rfl := Option.some.inj h
  exact sm_iret d_X12_isVertex_11 rfl (sm_nar_of g2).1 rfl rfl
theorem c_X12_isVertex {sk : List sm_Sh} (hx : sm_ext skM sk) (F : Nat) (x1 : Int32) (M : sm_M) (r : Int32) (h : f_X12_isVertex F x1 M = some r) : sm_Ct yX12_isVertex md_X12_isVertex 1 sk [.ref 80, .int x1] M (.inl (some (.int r))) M := sm_enter 0 pn_X12 rfl (Nat.le_of_ble_eq_true rfl) rfl (j_X12_isVertex hx F x1 M r h)
/-! UniversalCyclesModel.vertexCount()I -/
theorem d_X12_vertexCount_0 : decode cX12_vertexCount 0 = .ok (.aload_n 0, 1) := by decide +kernel
theorem d_X12_vertexCount_1 : decode cX12_vertexCount 1 = .ok (.iconst 0, 1) := by decide +kernel
theorem d_X12_vertexCount_2 : decode cX12_vertexCount 2 = .ok (.putfield 1, 3) := by decide +kernel
theorem d_X12_vertexCount_5 : decode cX12_vertexCount 5 = .ok (.aload_n 0, 1) := by decide +kernel
theorem d_X12_vertexCount_6 : decode cX12_vertexCount 6 = .ok (.getfield 90, 3) := by decide +kernel
theorem d_X12_vertexCount_9 : decode cX12_vertexCount 9 = .ok (.iconst 3, 1) := by decide +kernel
theorem d_X12_vertexCount_10 : decode cX12_vertexCount 10 = .ok (.if_icmp .ne 11, 3) := by decide +kernel
theorem d_X12_vertexCount_13 : decode cX12_vertexCount 13 = .ok (.aload_n 0, 1) := by decide +kernel
theorem d_X12_vertexCount_14 : decode cX12_vertexCount 14 = .ok (.iconst 1, 1) := by decide +kernel
theorem d_X12_vertexCount_15 : decode cX12_vertexCount 15 = .ok (.invokevirtual 122, 3) := by decide +kernel
theorem d_X12_vertexCount_18 : decode cX12_vertexCount 18 = .ok (.goto 7, 3) := by decide +kernel
theorem d_X12_vertexCount_21 : decode cX12_vertexCount 21 = .ok (.aload_n 0, 1) := by decide +kernel
theorem d_X12_vertexCount_22 : decode cX12_vertexCount 22 = .ok (.getfield 100, 3) := by decide +kernel
theorem d_X12_vertexCount_25 : decode cX12_vertexCount 25 = .ok (.ireturn, 1) := by decide +kernel
def f_X12_vertexCount_25 (F : Nat) (y0 : Int32) (M : sm_M) : Option (Int32 × sm_M) := some (y0, M)
set_option maxRecDepth 100000 in
set_option maxHeartbeats 4000000 in
theorem j_X12_vertexCount_25 {sk : List sm_Sh} (hx : sm_ext skM sk) (F : Nat) : ∀ (y0 : Int32) (M : sm_M) (r : Int32 × sm_M), f_X12_vertexCount_25 F y0 M = some r → sm_J (md_X12_vertexCount, 1, sk, .inl (some (.int r.1)), r.2) 25 [none] [.int y0] M := by
  intro y0  M r h
  unfold f_X12_vertexCount_25 at h
  obtain rfl := Option.some.inj h
  exact sm_iret d_X12_vertexCount_25 rfl rfl rfl rfl
def f_X12_vertexCount (F : Nat) (M : sm_M) : Option (Int32 × sm_M) := if (((sm_mi M 80 0 (0 : Int32))).1 80 1) = (3 : Int32) then ((f_X12_fail F (1 : Int32) (sm_mi M 80 0 (0 : Int32))).bind fun q2 => f_X12_vertexCount_25 F q2.1 q2.2) else (f_X12_vertexCount_25 F (((sm_mi M 80 0 (0 : Int32))).1 80 7) ((sm_mi M 80 0 (0 : Int32))))
set_option maxRecDepth 100000 in
set_option maxHeartbeats 4000000 in
theorem j_X12_vertexCount {sk : List sm_Sh} (hx : sm_ext skM sk) (F : Nat) : ∀ (M : sm_M) (r : Int32 × sm_M), f_X12_vertexCount F M = some r → sm_J (md_X12_vertexCount, 1, sk, .inl (some (.int r.1)), r.2) 0 [some (.ref 80)] [] M := by
  intro   M r h
  unfold f_X12_vertexCount at h
  refine sm_aload_n (q := 1) d_X12_vertexCount_0 rfl rfl ?_
  refine sm_iconst (q := 2) d_X12_vertexCount_1 rfl ci_0 ?_
  refine sm_puti (q := 5) d_X12_vertexCount_2 rfl fw_X12_1 (hx sx_80) rfl rfl rfl ?_
  refine sm_aload_n (q := 6) d_X12_vertexCount_5 rfl rfl ?_
  refine sm_geti (q := 9) d_X12_vertexCount_6 rfl fl_X12_90 (hx sx_80) rfl ?_
  refine sm_iconst (q := 10) d_X12_vertexCount_9 rfl ci_3 ?_
  refine sm_icmp_ne (q := 13) (t := 21) d_X12_vertexCount_10 rfl rfl (fun c1 => ?_) (fun c1 => ?_)
  · replace h := sm_if c1 h
    refine sm_aload_n (q := 22) d_X12_vertexCount_21 rfl rfl ?_
    refine sm_geti (q := 25) d_X12_vertexCount_22 rfl fl_X12_100 (hx sx_80) rfl ?_
    refine sm_fg [0] ?_
    exact j_X12_vertexCount_25 hx F (((sm_mi M 80 0 (0 : Int32))).1 80 7) ((sm_mi M 80 0 (0 : Int32))) _ h
  · replace h := sm_it c1 h
    refine sm_aload_n (q := 14) d_X12_vertexCount_13 rfl rfl ?_
    refine sm_iconst (q := 15) d_X12_vertexCount_14 rfl ci_1 ?_
    obtain ⟨q2, e2, h⟩ := sm_bd h
    refine sm_callV (q := 18) (d' := 0) [] [.int (1 : Int32)] d_X12_vertexCount_15 rfl lk_X12_122 (hx sx_80) rfl rfl rfl (Nat.le_of_ble_eq_true rfl) (Nat.le_of_ble_eq_true rfl) (c_X12_fail hx F (1 : Int32) (sm_mi M 80 0 (0 : Int32)) _ e2) (st9 := [.int q2.1]) rfl ?_
    refine sm_goto (t := 25) d_X12_vertexCount_18 rfl ?_
    refine sm_fg [0] ?_
    exact j_X12_vertexCount_25 hx F q2.1 q2.2 _ h
theorem c_X12_vertexCount {sk : List sm_Sh} (hx : sm_ext skM sk) (F : Nat) (M : sm_M) (r : Int32 × sm_M) (h : f_X12_vertexCount F M = some r) : sm_Ct yX12_vertexCount md_X12_vertexCount 1 sk [.ref 80] M (.inl (some (.int r.1))) r.2 := sm_enter 0 pn_X12 rfl (Nat.le_of_ble_eq_true rfl) rfl (j_X12_vertexCount hx F M r h)
/-! UniversalCyclesModel.edgeEnd(IZ)I -/
theorem d_X12_edgeEnd_0 : decode cX12_edgeEnd 0 = .ok (.aload_n 0, 1) := by decide +kernel
theorem d_X12_edgeEnd_1 : decode cX12_edgeEnd 1 = .ok (.iconst 0, 1) := by decide +kernel
theorem d_X12_edgeEnd_2 : decode cX12_edgeEnd 2 = .ok (.putfield 1, 3) := by decide +kernel
theorem d_X12_edgeEnd_5 : decode cX12_edgeEnd 5 = .ok (.aload_n 0, 1) := by decide +kernel
theorem d_X12_edgeEnd_6 : decode cX12_edgeEnd 6 = .ok (.getfield 90, 3) := by decide +kernel
theorem d_X12_edgeEnd_9 : decode cX12_edgeEnd 9 = .ok (.iconst 3, 1) := by decide +kernel
theorem d_X12_edgeEnd_10 : decode cX12_edgeEnd 10 = .ok (.if_icmp .ne 11, 3) := by decide +kernel
theorem d_X12_edgeEnd_13 : decode cX12_edgeEnd 13 = .ok (.aload_n 0, 1) := by decide +kernel
theorem d_X12_edgeEnd_14 : decode cX12_edgeEnd 14 = .ok (.iconst 1, 1) := by decide +kernel
theorem d_X12_edgeEnd_15 : decode cX12_edgeEnd 15 = .ok (.invokevirtual 122, 3) := by decide +kernel
theorem d_X12_edgeEnd_18 : decode cX12_edgeEnd 18 = .ok (.goto 38, 3) := by decide +kernel
theorem d_X12_edgeEnd_21 : decode cX12_edgeEnd 21 = .ok (.aload_n 0, 1) := by decide +kernel
theorem d_X12_edgeEnd_22 : decode cX12_edgeEnd 22 = .ok (.iload_n 1, 1) := by decide +kernel
theorem d_X12_edgeEnd_23 : decode cX12_edgeEnd 23 = .ok (.invokevirtual 131, 3) := by decide +kernel
theorem d_X12_edgeEnd_26 : decode cX12_edgeEnd 26 = .ok (.ifCond .ne 11, 3) := by decide +kernel
theorem d_X12_edgeEnd_29 : decode cX12_edgeEnd 29 = .ok (.aload_n 0, 1) := by decide +kernel
theorem d_X12_edgeEnd_30 : decode cX12_edgeEnd 30 = .ok (.iconst 2, 1) := by decide +kernel
theorem d_X12_edgeEnd_31 : decode cX12_edgeEnd 31 = .ok (.invokevirtual 122, 3) := by decide +kernel
theorem d_X12_edgeEnd_34 : decode cX12_edgeEnd 34 = .ok (.goto 22, 3) := by decide +kernel
theorem d_X12_edgeEnd_37 : decode cX12_edgeEnd 37 = .ok (.iload_n 2, 1) := by decide +kernel
theorem d_X12_edgeEnd_38 : decode cX12_edgeEnd 38 = .ok (.ifCond .eq 12, 3) := by decide +kernel
theorem d_X12_edgeEnd_41 : decode cX12_edgeEnd 41 = .ok (.aload_n 0, 1) := by decide +kernel
theorem d_X12_edgeEnd_42 : decode cX12_edgeEnd 42 = .ok (.getfield 33, 3) := by decide +kernel
theorem d_X12_edgeEnd_45 : decode cX12_edgeEnd 45 = .ok (.iload_n 1, 1) := by decide +kernel
theorem d_X12_edgeEnd_46 : decode cX12_edgeEnd 46 = .ok (.iaload, 1) := by decide +kernel
theorem d_X12_edgeEnd_47 : decode cX12_edgeEnd 47 = .ok (.goto 9, 3) := by decide +kernel
theorem d_X12_edgeEnd_50 : decode cX12_edgeEnd 50 = .ok (.aload_n 0, 1) := by decide +kernel
theorem d_X12_edgeEnd_51 : decode cX12_edgeEnd 51 = .ok (.getfield 30, 3) := by decide +kernel
theorem d_X12_edgeEnd_54 : decode cX12_edgeEnd 54 = .ok (.iload_n 1, 1) := by decide +kernel
theorem d_X12_edgeEnd_55 : decode cX12_edgeEnd 55 = .ok (.iaload, 1) := by decide +kernel
theorem d_X12_edgeEnd_56 : decode cX12_edgeEnd 56 = .ok (.ireturn, 1) := by decide +kernel
def f_X12_edgeEnd_56 (F : Nat) (y0 : Int32) (M : sm_M) : Option (Int32 × sm_M) := some (y0, M)
set_option maxRecDepth 100000 in
set_option maxHeartbeats 4000000 in
theorem j_X12_edgeEnd_56 {sk : List sm_Sh} (hx : sm_ext skM sk) (F : Nat) : ∀ (y0 : Int32) (M : sm_M) (r : Int32 × sm_M), f_X12_edgeEnd_56 F y0 M = some r → sm_J (md_X12_edgeEnd, 2, sk, .inl (some (.int r.1)), r.2) 56 [none, none, none] [.int y0] M := by
  intro y0  M r h
  unfold f_X12_edgeEnd_56 at h
  obtain rfl := Option.some.inj h
  exact sm_iret d_X12_edgeEnd_56 rfl rfl rfl rfl
def f_X12_edgeEnd (F : Nat) (x1 : Int32) (x2 : Int32) (M : sm_M) : Option (Int32 × sm_M) := if (((sm_mi M 80 0 (0 : Int32))).1 80 1) = (3 : Int32) then ((f_X12_fail F (1 : Int32) (sm_mi M 80 0 (0 : Int32))).bind fun q8 => f_X12_edgeEnd_56 F q8.1 q8.2) else ((f_X12_isElement F x1 (sm_mi M 80 0 (0 : Int32))).bind fun q2 => if q2 = 0 then ((f_X12_fail F (2 : Int32) (sm_mi M 80 0 (0 : Int32))).bind fun q7 => f_X12_edgeEnd_56 F q7.1 q7.2) else (if x2 = 0 then (sm_g (sm_ib x1 200) (f_X12_edgeEnd_56 F ((sm_mi M 80 0 (0 : Int32)).1 84 x1.toNatClampNeg) ((sm_mi M 80 0 (0 : Int32))))) else (sm_g (sm_ib x1 200) (f_X12_edgeEnd_56 F ((sm_mi M 80 0 (0 : Int32)).1 85 x1.toNatClampNeg) ((sm_mi M 80 0 (0 : Int32)))))))
set_option maxRecDepth 100000 in
set_option maxHeartbeats 4000000 in
theorem j_X12_edgeEnd {sk : List sm_Sh} (hx : sm_ext skM sk) (F : Nat) : ∀ (x1 : Int32) (x2 : Int32) (M : sm_M) (r : Int32 × sm_M), f_X12_edgeEnd F x1 x2 M = some r → sm_J (md_X12_edgeEnd, 2, sk, .inl (some (.int r.1)), r.2) 0 [some (.ref 80), some (.int x1), some (.int x2)] [] M := by
  intro x1 x2  M r h
  unfold f_X12_edgeEnd at h
  refine sm_aload_n (q := 1) d_X12_edgeEnd_0 rfl rfl ?_
  refine sm_iconst (q := 2) d_X12_edgeEnd_1 rfl ci_0 ?_
  refine sm_puti (q := 5) d_X12_edgeEnd_2 rfl fw_X12_1 (hx sx_80) rfl rfl rfl ?_
  refine sm_aload_n (q := 6) d_X12_edgeEnd_5 rfl rfl ?_
  refine sm_geti (q := 9) d_X12_edgeEnd_6 rfl fl_X12_90 (hx sx_80) rfl ?_
  refine sm_iconst (q := 10) d_X12_edgeEnd_9 rfl ci_3 ?_
  refine sm_icmp_ne (q := 13) (t := 21) d_X12_edgeEnd_10 rfl rfl (fun c1 => ?_) (fun c1 => ?_)
  · replace h := sm_if c1 h
    refine sm_aload_n (q := 22) d_X12_edgeEnd_21 rfl rfl ?_
    refine sm_iload_n (q := 23) d_X12_edgeEnd_22 rfl rfl ?_
    obtain ⟨q2, e2, h⟩ := sm_bd h
    refine sm_callV (q := 26) (d' := 1) [] [.int x1] d_X12_edgeEnd_23 rfl lk_X12_131 (hx sx_80) rfl rfl rfl (Nat.le_of_ble_eq_true rfl) (Nat.le_of_ble_eq_true rfl) (c_X12_isElement hx F x1 (sm_mi M 80 0 (0 : Int32)) _ e2) (st9 := [.int q2]) rfl ?_
    refine sm_if_ne (q := 29) (t := 37) d_X12_edgeEnd_26 rfl rfl (fun c3 => ?_) (fun c3 => ?_)
    · replace h := sm_if c3 h
      refine sm_iload_n (q := 38) d_X12_edgeEnd_37 rfl rfl ?_
      refine sm_if_eq (q := 41) (t := 50) d_X12_edgeEnd_38 rfl rfl (fun c4 => ?_) (fun c4 => ?_)
      · replace h := sm_it c4 h
        refine sm_aload_n (q := 51) d_X12_edgeEnd_50 rfl rfl ?_
        refine sm_getr (q := 54) d_X12_edgeEnd_51 rfl fl_X12_30 (hx sx_80) rfl ?_
        refine sm_iload_n (q := 55) d_X12_edgeEnd_54 rfl rfl ?_
        obtain ⟨g5, h⟩ := sm_gt h
        refine sm_iaload (q := 56) d_X12_edgeEnd_55 rfl (hx sx_84) (sm_ib_of g5) ?_
        refine sm_fg [0, 1, 2] ?_
        exact j_X12_edgeEnd_56 hx F ((sm_mi M 80 0 (0 : Int32)).1 84 x1.toNatClampNeg) ((sm_mi M 80 0 (0 : Int32))) _ h
      · replace h := sm_if c4 h
        refine sm_aload_n (q := 42) d_X12_edgeEnd_41 rfl rfl ?_
        refine sm_getr (q := 45) d_X12_edgeEnd_42 rfl fl_X12_33 (hx sx_80) rfl ?_
        refine sm_iload_n (q := 46) d_X12_edgeEnd_45 rfl rfl ?_
        obtain ⟨g6, h⟩ := sm_gt h
        refine sm_iaload (q := 47) d_X12_edgeEnd_46 rfl (hx sx_85) (sm_ib_of g6) ?_
        refine sm_goto (t := 56) d_X12_edgeEnd_47 rfl ?_
        refine sm_fg [0, 1, 2] ?_
        exact j_X12_edgeEnd_56 hx F ((sm_mi M 80 0 (0 : Int32)).1 85 x1.toNatClampNeg) ((sm_mi M 80 0 (0 : Int32))) _ h
    · replace h := sm_it c3 h
      refine sm_aload_n (q := 30) d_X12_edgeEnd_29 rfl rfl ?_
      refine sm_iconst (q := 31) d_X12_edgeEnd_30 rfl ci_2 ?_
      obtain ⟨q7, e7, h⟩ := sm_bd h
      refine sm_callV (q := 34) (d' := 0) [] [.int (2 : Int32)] d_X12_edgeEnd_31 rfl lk_X12_122 (hx sx_80) rfl rfl rfl (Nat.le_of_ble_eq_true rfl) (Nat.le_of_ble_eq_true rfl) (c_X12_fail hx F (2 : Int32) (sm_mi M 80 0 (0 : Int32)) _ e7) (st9 := [.int q7.1]) rfl ?_
      refine sm_goto (t := 56) d_X12_edgeEnd_34 rfl ?_
      refine sm_fg [0, 1, 2] ?_
      exact j_X12_edgeEnd_56 hx F q7.1 q7.2 _ h
  · replace h := sm_it c1 h
    refine sm_aload_n (q := 14) d_X12_edgeEnd_13 rfl rfl ?_
    refine sm_iconst (q := 15) d_X12_edgeEnd_14 rfl ci_1 ?_
    obtain ⟨q8, e8, h⟩ := sm_bd h
    refine sm_callV (q := 18) (d' := 0) [] [.int (1 : Int32)] d_X12_edgeEnd_15 rfl lk_X12_122 (hx sx_80) rfl rfl rfl (Nat.le_of_ble_eq_true rfl) (Nat.le_of_ble_eq_true rfl) (c_X12_fail hx F (1 : Int32) (sm_mi M 80 0 (0 : Int32)) _ e8) (st9 := [.int q8.1]) rfl ?_
    refine sm_goto (t := 56) d_X12_edgeEnd_18 rfl ?_
    refine sm_fg [0, 1, 2] ?_
    exact j_X12_edgeEnd_56 hx F q8.1 q8.2 _ h
theorem c_X12_edgeEnd {sk : List sm_Sh} (hx : sm_ext skM sk) (F : Nat) (x1 : Int32) (x2 : Int32) (M : sm_M) (r : Int32 × sm_M) (h : f_X12_edgeEnd F x1 x2 M = some r) : sm_Ct yX12_edgeEnd md_X12_edgeEnd 2 sk [.ref 80, .int x1, .int x2] M (.inl (some (.int r.1))) r.2 := sm_enter 0 pn_X12 rfl (Nat.le_of_ble_eq_true rfl) rfl (j_X12_edgeEnd hx F x1 x2 M r h)
/-! UniversalCyclesModel.inDegree(I)I -/
theorem d_X12_inDegree_0 : decode cX12_inDegree 0 = .ok (.aload_n 0, 1) := by decide +kernel
theorem d_X12_inDegree_1 : decode cX12_inDegree 1 = .ok (.iconst 0, 1) := by decide +kernel
theorem d_X12_inDegree_2 : decode cX12_inDegree 2 = .ok (.putfield 1, 3) := by decide +kernel
theorem d_X12_inDegree_5 : decode cX12_inDegree 5 = .ok (.aload_n 0, 1) := by decide +kernel
theorem d_X12_inDegree_6 : decode cX12_inDegree 6 = .ok (.getfield 90, 3) := by decide +kernel
theorem d_X12_inDegree_9 : decode cX12_inDegree 9 = .ok (.iconst 3, 1) := by decide +kernel
theorem d_X12_inDegree_10 : decode cX12_inDegree 10 = .ok (.if_icmp .eq 11, 3) := by decide +kernel
theorem d_X12_inDegree_13 : decode cX12_inDegree 13 = .ok (.aload_n 0, 1) := by decide +kernel
theorem d_X12_inDegree_14 : decode cX12_inDegree 14 = .ok (.iload_n 1, 1) := by decide +kernel
theorem d_X12_inDegree_15 : decode cX12_inDegree 15 = .ok (.invokevirtual 207, 3) := by decide +kernel
theorem d_X12_inDegree_18 : decode cX12_inDegree 18 = .ok (.ifCond .ne 21, 3) := by decide +kernel
theorem d_X12_inDegree_21 : decode cX12_inDegree 21 = .ok (.aload_n 0, 1) := by decide +kernel
theorem d_X12_inDegree_22 : decode cX12_inDegree 22 = .ok (.aload_n 0, 1) := by decide +kernel
theorem d_X12_inDegree_23 : decode cX12_inDegree 23 = .ok (.getfield 90, 3) := by decide +kernel
theorem d_X12_inDegree_26 : decode cX12_inDegree 26 = .ok (.iconst 3, 1) := by decide +kernel
theorem d_X12_inDegree_27 : decode cX12_inDegree 27 = .ok (.if_icmp .ne 7, 3) := by decide +kernel
theorem d_X12_inDegree_30 : decode cX12_inDegree 30 = .ok (.iconst 1, 1) := by decide +kernel
theorem d_X12_inDegree_31 : decode cX12_inDegree 31 = .ok (.goto 4, 3) := by decide +kernel
theorem d_X12_inDegree_34 : decode cX12_inDegree 34 = .ok (.iconst 2, 1) := by decide +kernel
theorem d_X12_inDegree_35 : decode cX12_inDegree 35 = .ok (.invokevirtual 122, 3) := by decide +kernel
theorem d_X12_inDegree_38 : decode cX12_inDegree 38 = .ok (.ireturn, 1) := by decide +kernel
theorem d_X12_inDegree_39 : decode cX12_inDegree 39 = .ok (.iconst 0, 1) := by decide +kernel
theorem d_X12_inDegree_40 : decode cX12_inDegree 40 = .ok (.istore_n 2, 1) := by decide +kernel
theorem d_X12_inDegree_41 : decode cX12_inDegree 41 = .ok (.iconst 0, 1) := by decide +kernel
theorem d_X12_inDegree_42 : decode cX12_inDegree 42 = .ok (.istore_n 3, 1) := by decide +kernel
theorem d_X12_inDegree_43 : decode cX12_inDegree 43 = .ok (.iload_n 3, 1) := by decide +kernel
theorem d_X12_inDegree_44 : decode cX12_inDegree 44 = .ok (.aload_n 0, 1) := by decide +kernel
theorem d_X12_inDegree_45 : decode cX12_inDegree 45 = .ok (.getfield 97, 3) := by decide +kernel
theorem d_X12_inDegree_48 : decode cX12_inDegree 48 = .ok (.if_icmp .ge 27, 3) := by decide +kernel
theorem d_X12_inDegree_51 : decode cX12_inDegree 51 = .ok (.iload_n 2, 1) := by decide +kernel
theorem d_X12_inDegree_52 : decode cX12_inDegree 52 = .ok (.aload_n 0, 1) := by decide +kernel
theorem d_X12_inDegree_53 : decode cX12_inDegree 53 = .ok (.getfield 33, 3) := by decide +kernel
theorem d_X12_inDegree_56 : decode cX12_inDegree 56 = .ok (.iload_n 3, 1) := by decide +kernel
theorem d_X12_inDegree_57 : decode cX12_inDegree 57 = .ok (.iaload, 1) := by decide +kernel
theorem d_X12_inDegree_58 : decode cX12_inDegree 58 = .ok (.iload_n 1, 1) := by decide +kernel
theorem d_X12_inDegree_59 : decode cX12_inDegree 59 = .ok (.if_icmp .ne 7, 3) := by decide +kernel
theorem d_X12_inDegree_62 : decode cX12_inDegree 62 = .ok (.iconst 1, 1) := by decide +kernel
theorem d_X12_inDegree_63 : decode cX12_inDegree 63 = .ok (.goto 4, 3) := by decide +kernel
theorem d_X12_inDegree_66 : decode cX12_inDegree 66 = .ok (.iconst 0, 1) := by decide +kernel
theorem d_X12_inDegree_67 : decode cX12_inDegree 67 = .ok (.iadd, 1) := by decide +kernel
theorem d_X12_inDegree_68 : decode cX12_inDegree 68 = .ok (.istore_n 2, 1) := by decide +kernel
theorem d_X12_inDegree_69 : decode cX12_inDegree 69 = .ok (.iinc 3 1, 3) := by decide +kernel
theorem d_X12_inDegree_72 : decode cX12_inDegree 72 = .ok (.goto (-29), 3) := by decide +kernel
theorem d_X12_inDegree_75 : decode cX12_inDegree 75 = .ok (.iload_n 2, 1) := by decide +kernel
theorem d_X12_inDegree_76 : decode cX12_inDegree 76 = .ok (.ireturn, 1) := by decide +kernel
def f_X12_inDegree_35 (F : Nat) (y1 : Int32) (M : sm_M) : Option (Int32 × sm_M) := (f_X12_fail F y1 M).bind fun q1 => some (q1.1, q1.2)
set_option maxRecDepth 100000 in
set_option maxHeartbeats 4000000 in
theorem j_X12_inDegree_35 {sk : List sm_Sh} (hx : sm_ext skM sk) (F : Nat) : ∀ (y1 : Int32) (M : sm_M) (r : Int32 × sm_M), f_X12_inDegree_35 F y1 M = some r → sm_J (md_X12_inDegree, 2, sk, .inl (some (.int r.1)), r.2) 35 [none, none, none, none] [.int y1, .ref 80] M := by
  intro y1  M r h
  unfold f_X12_inDegree_35 at h
  obtain ⟨q1, e1, h⟩ := sm_bd h
  refine sm_callV (q := 38) (d' := 0) [] [.int y1] d_X12_inDegree_35 rfl lk_X12_122 (hx sx_80) rfl rfl rfl (Nat.le_of_ble_eq_true rfl) (Nat.le_of_ble_eq_true rfl) (c_X12_fail hx F y1 M _ e1) (st9 := [.int q1.1]) rfl ?_
  obtain rfl := Option.some.inj h
  exact sm_iret d_X12_inDegree_38 rfl rfl rfl rfl
def f_X12_inDegree_21 (F : Nat) (M : sm_M) : Option (Int32 × sm_M) := if (M.1 80 1) = (3 : Int32) then (f_X12_inDegree_35 F (1 : Int32) M) else (f_X12_inDegree_35 F (2 : Int32) M)
set_option maxRecDepth 100000 in
set_option maxHeartbeats 4000000 in
theorem j_X12_inDegree_21 {sk : List sm_Sh} (hx : sm_ext skM sk) (F : Nat) : ∀ (M : sm_M) (r : Int32 × sm_M), f_X12_inDegree_21 F M = some r → sm_J (md_X12_inDegree, 2, sk, .inl (some (.int r.1)), r.2) 21 [some (.ref 80), none, none, none] [] M := by
  intro   M r h
  unfold f_X12_inDegree_21 at h
  refine sm_aload_n (q := 22) d_X12_inDegree_21 rfl rfl ?_
  refine sm_aload_n (q := 23) d_X12_inDegree_22 rfl rfl ?_
  refine sm_geti (q := 26) d_X12_inDegree_23 rfl fl_X12_90 (hx sx_80) rfl ?_
  refine sm_iconst (q := 27) d_X12_inDegree_26 rfl ci_3 ?_
  refine sm_icmp_ne (q := 30) (t := 34) d_X12_inDegree_27 rfl rfl (fun c1 => ?_) (fun c1 => ?_)
  · replace h := sm_if c1 h
    refine sm_iconst (q := 35) d_X12_inDegree_34 rfl ci_2 ?_
    refine sm_fg [0] ?_
    exact j_X12_inDegree_35 hx F (2 : Int32) M _ h
  · replace h := sm_it c1 h
    refine sm_iconst (q := 31) d_X12_inDegree_30 rfl ci_1 ?_
    refine sm_goto (t := 35) d_X12_inDegree_31 rfl ?_
    refine sm_fg [0] ?_
    exact j_X12_inDegree_35 hx F (1 : Int32) M _ h
def f_X12_inDegree_67 (F : Nat) (kb43 : Int32 → Int32 → Int32 → sm_M → Option (Int32 × sm_M)) (x1 : Int32) (x3 : Int32) (y0 : Int32) (y1 : Int32) (M : sm_M) : Option (Int32 × sm_M) := kb43 x1 (y0 + y1) (x3 + 1) M
set_option maxRecDepth 100000 in
set_option maxHeartbeats 4000000 in
theorem j_X12_inDegree_67 {sk : List sm_Sh} (hx : sm_ext skM sk) (F : Nat) (kb43 : Int32 → Int32 → Int32 → sm_M → Option (Int32 × sm_M)) (hkb43 : ∀ (x1 : Int32) (x2 : Int32) (x3 : Int32) (M : sm_M) (r : Int32 × sm_M), kb43 x1 x2 x3 M = some r → sm_J (md_X12_inDegree, 2, sk, .inl (some (.int r.1)), r.2) 43 [some (.ref 80), some (.int x1), some (.int x2), some (.int x3)] [] M) : ∀ (x1 : Int32) (x3 : Int32) (y0 : Int32) (y1 : Int32) (M : sm_M) (r : Int32 × sm_M), f_X12_inDegree_67 F kb43 x1 x3 y0 y1 M = some r → sm_J (md_X12_inDegree, 2, sk, .inl (some (.int r.1)), r.2) 67 [some (.ref 80), some (.int x1), none, some (.int x3)] [.int y1, .int y0] M := by
  intro x1 x3 y0 y1  M r h
  unfold f_X12_inDegree_67 at h
  refine sm_iadd (q := 68) d_X12_inDegree_67 rfl ?_
  refine sm_istore_n (q := 69) (lt := [some (.ref 80), some (.int x1), some (.int (y0 + y1)), some (.int x3)]) d_X12_inDegree_68 rfl (Nat.le_of_ble_eq_true rfl) rfl rfl ?_
  refine sm_iinc (q := 72) (v := (x3 + 1)) (lt := [some (.ref 80), some (.int x1), some (.int (y0 + y1)), some (.int (x3 + 1))]) d_X12_inDegree_69 rfl rfl (ii_1 _) (Nat.le_of_ble_eq_true rfl) rfl rfl ?_
  refine sm_goto (t := 43) d_X12_inDegree_72 rfl ?_
  exact hkb43 x1 (y0 + y1) (x3 + 1) M _ h
def f_X12_inDegree_43b (F : Nat) (kb43 : Int32 → Int32 → Int32 → sm_M → Option (Int32 × sm_M)) (x1 : Int32) (x2 : Int32) (x3 : Int32) (M : sm_M) : Option (Int32 × sm_M) := if (M.1 80 5) ≤ x3 then (some (x2, M)) else (sm_g (sm_ib x3 200) (if (M.1 85 x3.toNatClampNeg) = x1 then (f_X12_inDegree_67 F kb43 x1 x3 x2 (1 : Int32) M) else (f_X12_inDegree_67 F kb43 x1 x3 x2 (0 : Int32) M)))
set_option maxRecDepth 100000 in
set_option maxHeartbeats 4000000 in
theorem j_X12_inDegree_43b {sk : List sm_Sh} (hx : sm_ext skM sk) (F : Nat) (kb43 : Int32 → Int32 → Int32 → sm_M → Option (Int32 × sm_M)) (hkb43 : ∀ (x1 : Int32) (x2 : Int32) (x3 : Int32) (M : sm_M) (r : Int32 × sm_M), kb43 x1 x2 x3 M = some r → sm_J (md_X12_inDegree, 2, sk, .inl (some (.int r.1)), r.2) 43 [some (.ref 80), some (.int x1), some (.int x2), some (.int x3)] [] M) : ∀ (x1 : Int32) (x2 : Int32) (x3 : Int32) (M : sm_M) (r : Int32 × sm_M), f_X12_inDegree_43b F kb43 x1 x2 x3 M = some r → sm_J (md_X12_inDegree, 2, sk, .inl (some (.int r.1)), r.2) 43 [some (.ref 80), some (.int x1), some (.int x2), some (.int x3)] [] M := by
  intro x1 x2 x3  M r h
  unfold f_X12_inDegree_43b at h
  refine sm_iload_n (q := 44) d_X12_inDegree_43 rfl rfl ?_
  refine sm_aload_n (q := 45) d_X12_inDegree_44 rfl rfl ?_
  refine sm_geti (q := 48) d_X12_inDegree_45 rfl fl_X12_97 (hx sx_80) rfl ?_
  refine sm_icmp_ge (q := 51) (t := 75) d_X12_inDegree_48 rfl rfl (fun c1 => ?_) (fun c1 => ?_)
  · replace h := sm_it c1 h
    refine sm_iload_n (q := 76) d_X12_inDegree_75 rfl rfl ?_
    obtain rfl := Option.some.inj h
    exact sm_iret d_X12_inDegree_76 rfl rfl rfl rfl
  · replace h := sm_if c1 h
    refine sm_iload_n (q := 52) d_X12_inDegree_51 rfl rfl ?_
    refine sm_aload_n (q := 53) d_X12_inDegree_52 rfl rfl ?_
    refine sm_getr (q := 56) d_X12_inDegree_53 rfl fl_X12_33 (hx sx_80) rfl ?_
    refine sm_iload_n (q := 57) d_X12_inDegree_56 rfl rfl ?_
    obtain ⟨g2, h⟩ := sm_gt h
    refine sm_iaload (q := 58) d_X12_inDegree_57 rfl (hx sx_85) (sm_ib_of g2) ?_
    refine sm_iload_n (q := 59) d_X12_inDegree_58 rfl rfl ?_
    refine sm_icmp_ne (q := 62) (t := 66) d_X12_inDegree_59 rfl rfl (fun c3 => ?_) (fun c3 => ?_)
    · replace h := sm_if c3 h
      refine sm_iconst (q := 67) d_X12_inDegree_66 rfl ci_0 ?_
      refine sm_fg [2] ?_
      exact j_X12_inDegree_67 hx F kb43 hkb43 x1 x3 x2 (0 : Int32) M _ h
    · replace h := sm_it c3 h
      refine sm_iconst (q := 63) d_X12_inDegree_62 rfl ci_1 ?_
      refine sm_goto (t := 67) d_X12_inDegree_63 rfl ?_
      refine sm_fg [2] ?_
      exact j_X12_inDegree_67 hx F kb43 hkb43 x1 x3 x2 (1 : Int32) M _ h
def f_X12_inDegree_43 (F : Nat) (n : Nat) : Int32 → Int32 → Int32 → sm_M → Option (Int32 × sm_M) := match n with
 | 0 => fun _ _ _ _ => none
 | n + 1 => f_X12_inDegree_43b F (f_X12_inDegree_43 F n)
theorem j_X12_inDegree_43 {sk : List sm_Sh} (hx : sm_ext skM sk) (F : Nat) : ∀ (n : Nat) (x1 : Int32) (x2 : Int32) (x3 : Int32) (M : sm_M) (r : Int32 × sm_M), f_X12_inDegree_43 F n x1 x2 x3 M = some r → sm_J (md_X12_inDegree, 2, sk, .inl (some (.int r.1)), r.2) 43 [some (.ref 80), some (.int x1), some (.int x2), some (.int x3)] [] M := by
  intro n
  induction n with
  | zero => intro x1 x2 x3  M r h; exact nomatch (show (none : Option (Int32 × sm_M)) = some r from h)
  | succ n ih => exact j_X12_inDegree_43b hx F (f_X12_inDegree_43 F n) ih
def f_X12_inDegree (F : Nat) (x1 : Int32) (M : sm_M) : Option (Int32 × sm_M) := if (((sm_mi M 80 0 (0 : Int32))).1 80 1) = (3 : Int32) then (f_X12_inDegree_21 F ((sm_mi M 80 0 (0 : Int32)))) else ((f_X12_isVertex F x1 (sm_mi M 80 0 (0 : Int32))).bind fun q2 => if q2 = 0 then (f_X12_inDegree_21 F ((sm_mi M 80 0 (0 : Int32)))) else (f_X12_inDegree_43 F F x1 (0 : Int32) (0 : Int32) ((sm_mi M 80 0 (0 : Int32)))))
set_option maxRecDepth 100000 in
set_option maxHeartbeats 4000000 in
theorem j_X12_inDegree {sk : List sm_Sh} (hx : sm_ext skM sk) (F : Nat) : ∀ (x1 : Int32) (M : sm_M) (r : Int32 × sm_M), f_X12_inDegree F x1 M = some r → sm_J (md_X12_inDegree, 2, sk, .inl (some (.int r.1)), r.2) 0 [some (.ref 80), some (.int x1), none, none] [] M := by
  intro x1  M r h
  unfold f_X12_inDegree at h
  refine sm_aload_n (q := 1) d_X12_inDegree_0 rfl rfl ?_
  refine sm_iconst (q := 2) d_X12_inDegree_1 rfl ci_0 ?_
  refine sm_puti (q := 5) d_X12_inDegree_2 rfl fw_X12_1 (hx sx_80) rfl rfl rfl ?_
  refine sm_aload_n (q := 6) d_X12_inDegree_5 rfl rfl ?_
  refine sm_geti (q := 9) d_X12_inDegree_6 rfl fl_X12_90 (hx sx_80) rfl ?_
  refine sm_iconst (q := 10) d_X12_inDegree_9 rfl ci_3 ?_
  refine sm_icmp_eq (q := 13) (t := 21) d_X12_inDegree_10 rfl rfl (fun c1 => ?_) (fun c1 => ?_)
  · replace h := sm_it c1 h
    refine sm_fg [1] ?_
    exact j_X12_inDegree_21 hx F ((sm_mi M 80 0 (0 : Int32))) _ h
  · replace h := sm_if c1 h
    refine sm_aload_n (q := 14) d_X12_inDegree_13 rfl rfl ?_
    refine sm_iload_n (q := 15) d_X12_inDegree_14 rfl rfl ?_
    obtain ⟨q2, e2, h⟩ := sm_bd h
    refine sm_callV (q := 18) (d' := 1) [] [.int x1] d_X12_inDegree_15 rfl lk_X12_207 (hx sx_80) rfl rfl rfl (Nat.le_of_ble_eq_true rfl) (Nat.le_of_ble_eq_true rfl) (c_X12_isVertex hx F x1 (sm_mi M 80 0 (0 : Int32)) _ e2) (st9 := [.int q2]) rfl ?_
    refine sm_if_ne (q := 21) (t := 39) d_X12_inDegree_18 rfl rfl (fun c3 => ?_) (fun c3 => ?_)
    · replace h := sm_if c3 h
      refine sm_iconst (q := 40) d_X12_inDegree_39 rfl ci_0 ?_
      refine sm_istore_n (q := 41) (lt := [some (.ref 80), some (.int x1), some (.int (0 : Int32)), none]) d_X12_inDegree_40 rfl (Nat.le_of_ble_eq_true rfl) rfl rfl ?_
      refine sm_iconst (q := 42) d_X12_inDegree_41 rfl ci_0 ?_
      refine sm_istore_n (q := 43) (lt := [some (.ref 80), some (.int x1), some (.int (0 : Int32)), some (.int (0 : Int32))]) d_X12_inDegree_42 rfl (Nat.le_of_ble_eq_true rfl) rfl rfl ?_
      exact j_X12_inDegree_43 hx F F x1 (0 : Int32) (0 : Int32) ((sm_mi M 80 0 (0 : Int32))) _ h
    · replace h := sm_it c3 h
      refine sm_fg [1] ?_
      exact j_X12_inDegree_21 hx F ((sm_mi M 80 0 (0 : Int32))) _ h
theorem c_X12_inDegree {sk : List sm_Sh} (hx : sm_ext skM sk) (F : Nat) (x1 : Int32) (M : sm_M) (r : Int32 × sm_M) (h : f_X12_inDegree F x1 M = some r) : sm_Ct yX12_inDegree md_X12_inDegree 2 sk [.ref 80, .int x1] M (.inl (some (.int r.1))) r.2 := sm_enter 2 pn_X12 rfl (Nat.le_of_ble_eq_true rfl) rfl (j_X12_inDegree hx F x1 M r h)
/-! UniversalCyclesModel.findDistances(I)V -/
theorem d_X12_findDistances_0 : decode cX12_findDistances 0 = .ok (.iconst 0, 1) := by decide +kernel
theorem d_X12_findDistances_1 : decode cX12_findDistances 1 = .ok (.istore_n 2, 1) := by decide +kernel
theorem d_X12_findDistances_2 : decode cX12_findDistances 2 = .ok (.iload_n 2, 1) := by decide +kernel
theorem d_X12_findDistances_3 : decode cX12_findDistances 3 = .ok (.aload_n 0, 1) := by decide +kernel
theorem d_X12_findDistances_4 : decode cX12_findDistances 4 = .ok (.getfield 100, 3) := by decide +kernel
theorem d_X12_findDistances_7 : decode cX12_findDistances 7 = .ok (.if_icmp .ge 25, 3) := by decide +kernel
theorem d_X12_findDistances_10 : decode cX12_findDistances 10 = .ok (.aload_n 0, 1) := by decide +kernel
theorem d_X12_findDistances_11 : decode cX12_findDistances 11 = .ok (.getfield 65, 3) := by decide +kernel
theorem d_X12_findDistances_14 : decode cX12_findDistances 14 = .ok (.iload_n 2, 1) := by decide +kernel
theorem d_X12_findDistances_15 : decode cX12_findDistances 15 = .ok (.iload_n 2, 1) := by decide +kernel
theorem d_X12_findDistances_16 : decode cX12_findDistances 16 = .ok (.iload_n 1, 1) := by decide +kernel
theorem d_X12_findDistances_17 : decode cX12_findDistances 17 = .ok (.if_icmp .ne 7, 3) := by decide +kernel
theorem d_X12_findDistances_20 : decode cX12_findDistances 20 = .ok (.iconst 0, 1) := by decide +kernel
theorem d_X12_findDistances_21 : decode cX12_findDistances 21 = .ok (.goto 4, 3) := by decide +kernel
theorem d_X12_findDistances_24 : decode cX12_findDistances 24 = .ok (.iconst (-1), 1) := by decide +kernel
theorem d_X12_findDistances_25 : decode cX12_findDistances 25 = .ok (.iastore, 1) := by decide +kernel
theorem d_X12_findDistances_26 : decode cX12_findDistances 26 = .ok (.iinc 2 1, 3) := by decide +kernel
theorem d_X12_findDistances_29 : decode cX12_findDistances 29 = .ok (.goto (-27), 3) := by decide +kernel
theorem d_X12_findDistances_32 : decode cX12_findDistances 32 = .ok (.iconst 0, 1) := by decide +kernel
theorem d_X12_findDistances_33 : decode cX12_findDistances 33 = .ok (.istore_n 2, 1) := by decide +kernel
theorem d_X12_findDistances_34 : decode cX12_findDistances 34 = .ok (.iload_n 2, 1) := by decide +kernel
theorem d_X12_findDistances_35 : decode cX12_findDistances 35 = .ok (.aload_n 0, 1) := by decide +kernel
theorem d_X12_findDistances_36 : decode cX12_findDistances 36 = .ok (.getfield 100, 3) := by decide +kernel
theorem d_X12_findDistances_39 : decode cX12_findDistances 39 = .ok (.if_icmp .ge 69, 3) := by decide +kernel
theorem d_X12_findDistances_42 : decode cX12_findDistances 42 = .ok (.iconst 0, 1) := by decide +kernel
theorem d_X12_findDistances_43 : decode cX12_findDistances 43 = .ok (.istore_n 3, 1) := by decide +kernel
theorem d_X12_findDistances_44 : decode cX12_findDistances 44 = .ok (.iload_n 3, 1) := by decide +kernel
theorem d_X12_findDistances_45 : decode cX12_findDistances 45 = .ok (.aload_n 0, 1) := by decide +kernel
theorem d_X12_findDistances_46 : decode cX12_findDistances 46 = .ok (.getfield 97, 3) := by decide +kernel
theorem d_X12_findDistances_49 : decode cX12_findDistances 49 = .ok (.if_icmp .ge 53, 3) := by decide +kernel
theorem d_X12_findDistances_52 : decode cX12_findDistances 52 = .ok (.aload_n 0, 1) := by decide +kernel
theorem d_X12_findDistances_53 : decode cX12_findDistances 53 = .ok (.getfield 65, 3) := by decide +kernel
theorem d_X12_findDistances_56 : decode cX12_findDistances 56 = .ok (.aload_n 0, 1) := by decide +kernel
theorem d_X12_findDistances_57 : decode cX12_findDistances 57 = .ok (.getfield 30, 3) := by decide +kernel
theorem d_X12_findDistances_60 : decode cX12_findDistances 60 = .ok (.iload_n 3, 1) := by decide +kernel
theorem d_X12_findDistances_61 : decode cX12_findDistances 61 = .ok (.iaload, 1) := by decide +kernel
theorem d_X12_findDistances_62 : decode cX12_findDistances 62 = .ok (.iaload, 1) := by decide +kernel
theorem d_X12_findDistances_63 : decode cX12_findDistances 63 = .ok (.iload_n 2, 1) := by decide +kernel
theorem d_X12_findDistances_64 : decode cX12_findDistances 64 = .ok (.if_icmp .ne 32, 3) := by decide +kernel
theorem d_X12_findDistances_67 : decode cX12_findDistances 67 = .ok (.aload_n 0, 1) := by decide +kernel
theorem d_X12_findDistances_68 : decode cX12_findDistances 68 = .ok (.getfield 65, 3) := by decide +kernel
theorem d_X12_findDistances_71 : decode cX12_findDistances 71 = .ok (.aload_n 0, 1) := by decide +kernel
theorem d_X12_findDistances_72 : decode cX12_findDistances 72 = .ok (.getfield 33, 3) := by decide +kernel
theorem d_X12_findDistances_75 : decode cX12_findDistances 75 = .ok (.iload_n 3, 1) := by decide +kernel
theorem d_X12_findDistances_76 : decode cX12_findDistances 76 = .ok (.iaload, 1) := by decide +kernel
theorem d_X12_findDistances_77 : decode cX12_findDistances 77 = .ok (.iaload, 1) := by decide +kernel
theorem d_X12_findDistances_78 : decode cX12_findDistances 78 = .ok (.iconst (-1), 1) := by decide +kernel
theorem d_X12_findDistances_79 : decode cX12_findDistances 79 = .ok (.if_icmp .ne 17, 3) := by decide +kernel
theorem d_X12_findDistances_82 : decode cX12_findDistances 82 = .ok (.aload_n 0, 1) := by decide +kernel
theorem d_X12_findDistances_83 : decode cX12_findDistances 83 = .ok (.getfield 65, 3) := by decide +kernel
theorem d_X12_findDistances_86 : decode cX12_findDistances 86 = .ok (.aload_n 0, 1) := by decide +kernel
theorem d_X12_findDistances_87 : decode cX12_findDistances 87 = .ok (.getfield 33, 3) := by decide +kernel
theorem d_X12_findDistances_90 : decode cX12_findDistances 90 = .ok (.iload_n 3, 1) := by decide +kernel
theorem d_X12_findDistances_91 : decode cX12_findDistances 91 = .ok (.iaload, 1) := by decide +kernel
theorem d_X12_findDistances_92 : decode cX12_findDistances 92 = .ok (.iload_n 2, 1) := by decide +kernel
theorem d_X12_findDistances_93 : decode cX12_findDistances 93 = .ok (.iconst 1, 1) := by decide +kernel
theorem d_X12_findDistances_94 : decode cX12_findDistances 94 = .ok (.iadd, 1) := by decide +kernel
theorem d_X12_findDistances_95 : decode cX12_findDistances 95 = .ok (.iastore, 1) := by decide +kernel
theorem d_X12_findDistances_96 : decode cX12_findDistances 96 = .ok (.iinc 3 1, 3) := by decide +kernel
theorem d_X12_findDistances_99 : decode cX12_findDistances 99 = .ok (.goto (-55), 3) := by decide +kernel
theorem d_X12_findDistances_102 : decode cX12_findDistances 102 = .ok (.iinc 2 1, 3) := by decide +kernel
theorem d_X12_findDistances_105 : decode cX12_findDistances 105 = .ok (.goto (-71), 3) := by decide +kernel
theorem d_X12_findDistances_108 : decode cX12_findDistances 108 = .ok (.return_, 1) := by decide +kernel
def f_X12_findDistances_25 (F : Nat) (kb2 : Int32 → Int32 → sm_M → Option (sm_M)) (x1 : Int32) (x2 : Int32) (y1 : Int32) (y2 : Int32) (M : sm_M) : Option (sm_M) := sm_g (sm_ib y1 200) (kb2 x1 (x2 + 1) ((sm_mi M 95 y1.toNatClampNeg y2)))
set_option maxRecDepth 100000 in
set_option maxHeartbeats 4000000 in
theorem j_X12_findDistances_25 {sk : List sm_Sh} (hx : sm_ext skM sk) (F : Nat) (kb2 : Int32 → Int32 → sm_M → Option (sm_M)) (hkb2 : ∀ (x1 : Int32) (x2 : Int32) (M : sm_M) (r : sm_M), kb2 x1 x2 M = some r → sm_J (md_X12_findDistances, 0, sk, .inl none, r) 2 [some (.ref 80), some (.int x1), some (.int x2), none] [] M) : ∀ (x1 : Int32) (x2 : Int32) (y1 : Int32) (y2 : Int32) (M : sm_M) (r : sm_M), f_X12_findDistances_25 F kb2 x1 x2 y1 y2 M = some r → sm_J (md_X12_findDistances, 0, sk, .inl none, r) 25 [some (.ref 80), some (.int x1), some (.int x2), none] [.int y2, .int y1, .ref 95] M := by
  intro x1 x2 y1 y2  M r h
  unfold f_X12_findDistances_25 at h
  obtain ⟨g1, h⟩ := sm_gt h
  refine sm_iastore (q := 26) d_X12_findDistances_25 rfl (hx sx_95) (sm_ib_of g1) ?_
  refine sm_iinc (q := 29) (v := (x2 + 1)) (lt := [some (.ref 80), some (.int x1), some (.int (x2 + 1)), none]) d_X12_findDistances_26 rfl rfl (ii_1 _) (Nat.le_of_ble_eq_true rfl) rfl rfl ?_
  refine sm_goto (t := 2) d_X12_findDistances_29 rfl ?_
  exact hkb2 x1 (x2 + 1) ((sm_mi M 95 y1.toNatClampNeg y2)) _ h
def f_X12_findDistances_96 (F : Nat) (kb34 : Int32 → sm_M → Option (sm_M)) (kb44 : Int32 → Int32 → sm_M → Option (sm_M)) (x2 : Int32) (x3 : Int32) (M : sm_M) : Option (sm_M) := kb44 x2 (x3 + 1) M
set_option maxRecDepth 100000 in
set_option maxHeartbeats 4000000 in
theorem j_X12_findDistances_96 {sk : List sm_Sh} (hx : sm_ext skM sk) (F : Nat) (kb34 : Int32 → sm_M → Option (sm_M)) (kb44 : Int32 → Int32 → sm_M → Option (sm_M)) (hkb34 : ∀ (x2 : Int32) (M : sm_M) (r : sm_M), kb34 x2 M = some r → sm_J (md_X12_findDistances, 0, sk, .inl none, r) 34 [some (.ref 80), none, some (.int x2), none] [] M) (hkb44 : ∀ (x2 : Int32) (x3 : Int32) (M : sm_M) (r : sm_M), kb44 x2 x3 M = some r → sm_J (md_X12_findDistances, 0, sk, .inl none, r) 44 [some (.ref 80), none, some (.int x2), some (.int x3)] [] M) : ∀ (x2 : Int32) (x3 : Int32) (M : sm_M) (r : sm_M), f_X12_findDistances_96 F kb34 kb44 x2 x3 M = some r → sm_J (md_X12_findDistances, 0, sk, .inl none, r) 96 [some (.ref 80), none, some (.int x2), some (.int x3)] [] M := by
  intro x2 x3  M r h
  unfold f_X12_findDistances_96 at h
  refine sm_iinc (q := 99) (v := (x3 + 1)) (lt := [some (.ref 80), none, some (.int x2), some (.int (x3 + 1))]) d_X12_findDistances_96 rfl rfl (ii_1 _) (Nat.le_of_ble_eq_true rfl) rfl rfl ?_
  refine sm_goto (t := 44) d_X12_findDistances_99 rfl ?_
  exact hkb44 x2 (x3 + 1) M _ h
def f_X12_findDistances_44b (F : Nat) (kb34 : Int32 → sm_M → Option (sm_M)) (kb44 : Int32 → Int32 → sm_M → Option (sm_M)) (x2 : Int32) (x3 : Int32) (M : sm_M) : Option (sm_M) := if (M.1 80 5) ≤ x3 then (kb34 (x2 + 1) M) else (sm_g (sm_ib x3 200) (sm_g (sm_ib (M.1 84 x3.toNatClampNeg) 200) (if (M.1 95 (M.1 84 x3.toNatClampNeg).toNatClampNeg) = x2 then (sm_g (sm_ib x3 200) (sm_g (sm_ib (M.1 85 x3.toNatClampNeg) 200) (if (M.1 95 (M.1 85 x3.toNatClampNeg).toNatClampNeg) = (-1 : Int32) then (sm_g (sm_ib x3 200) (sm_g (sm_ib (M.1 85 x3.toNatClampNeg) 200) (f_X12_findDistances_96 F kb34 kb44 x2 x3 ((sm_mi M 95 (M.1 85 x3.toNatClampNeg).toNatClampNeg (x2 + (1 : Int32))))))) else (f_X12_findDistances_96 F kb34 kb44 x2 x3 M)))) else (f_X12_findDistances_96 F kb34 kb44 x2 x3 M))))
set_option maxRecDepth 100000 in
set_option maxHeartbeats 4000000 in
theorem j_X12_findDistances_44b {sk : List sm_Sh} (hx : sm_ext skM sk) (F : Nat) (kb34 : Int32 → sm_M → Option (sm_M)) (kb44 : Int32 → Int32 → sm_M → Option (sm_M)) (hkb34 : ∀ (x2 : Int32) (M : sm_M) (r : sm_M), kb34 x2 M = some r → sm_J (md_X12_findDistances, 0, sk, .inl none, r) 34 [some (.ref 80), none, some (.int x2), none] [] M) (hkb44 : ∀ (x2 : Int32) (x3 : Int32) (M : sm_M) (r : sm_M), kb44 x2 x3 M = some r → sm_J (md_X12_findDistances, 0, sk, .inl none, r) 44 [some (.ref 80), none, some (.int x2), some (.int x3)] [] M) : ∀ (x2 : Int32) (x3 : Int32) (M : sm_M) (r : sm_M), f_X12_findDistances_44b F kb34 kb44 x2 x3 M = some r → sm_J (md_X12_findDistances, 0, sk, .inl none, r) 44 [some (.ref 80), none, some (.int x2), some (.int x3)] [] M := by
  intro x2 x3  M r h
  unfold f_X12_findDistances_44b at h
  refine sm_iload_n (q := 45) d_X12_findDistances_44 rfl rfl ?_
  refine sm_aload_n (q := 46) d_X12_findDistances_45 rfl rfl ?_
  refine sm_geti (q := 49) d_X12_findDistances_46 rfl fl_X12_97 (hx sx_80) rfl ?_
  refine sm_icmp_ge (q := 52) (t := 102) d_X12_findDistances_49 rfl rfl (fun c1 => ?_) (fun c1 => ?_)
  · replace h := sm_it c1 h
    refine sm_iinc (q := 105) (v := (x2 + 1)) (lt := [some (.ref 80), none, some (.int (x2 + 1)), some (.int x3)]) d_X12_findDistances_102 rfl rfl (ii_1 _) (Nat.le_of_ble_eq_true rfl) rfl rfl ?_
    refine sm_goto (t := 34) d_X12_findDistances_105 rfl ?_
    refine sm_fg [3] ?_
    exact hkb34 (x2 + 1) M _ h
  · replace h := sm_if c1 h
    refine sm_aload_n (q := 53) d_X12_findDistances_52 rfl rfl ?_
    refine sm_getr (q := 56) d_X12_findDistances_53 rfl fl_X12_65 (hx sx_80) rfl ?_
    refine sm_aload_n (q := 57) d_X12_findDistances_56 rfl rfl ?_
    refine sm_getr (q := 60) d_X12_findDistances_57 rfl fl_X12_30 (hx sx_80) rfl ?_
    refine sm_iload_n (q := 61) d_X12_findDistances_60 rfl rfl ?_
    obtain ⟨g2, h⟩ := sm_gt h
    refine sm_iaload (q := 62) d_X12_findDistances_61 rfl (hx sx_84) (sm_ib_of g2) ?_
    obtain ⟨g3, h⟩ := sm_gt h
    refine sm_iaload (q := 63) d_X12_findDistances_62 rfl (hx sx_95) (sm_ib_of g3) ?_
    refine sm_iload_n (q := 64) d_X12_findDistances_63 rfl rfl ?_
    refine sm_icmp_ne (q := 67) (t := 96) d_X12_findDistances_64 rfl rfl (fun c4 => ?_) (fun c4 => ?_)
    · replace h := sm_if c4 h
      exact j_X12_findDistances_96 hx F kb34 kb44 hkb34 hkb44 x2 x3 M _ h
    · replace h := sm_it c4 h
      refine sm_aload_n (q := 68) d_X12_findDistances_67 rfl rfl ?_
      refine sm_getr (q := 71) d_X12_findDistances_68 rfl fl_X12_65 (hx sx_80) rfl ?_
      refine sm_aload_n (q := 72) d_X12_findDistances_71 rfl rfl ?_
      refine sm_getr (q := 75) d_X12_findDistances_72 rfl fl_X12_33 (hx sx_80) rfl ?_
      refine sm_iload_n (q := 76) d_X12_findDistances_75 rfl rfl ?_
      obtain ⟨g5, h⟩ := sm_gt h
      refine sm_iaload (q := 77) d_X12_findDistances_76 rfl (hx sx_85) (sm_ib_of g5) ?_
      obtain ⟨g6, h⟩ := sm_gt h
      refine sm_iaload (q := 78) d_X12_findDistances_77 rfl (hx sx_95) (sm_ib_of g6) ?_
      refine sm_iconst (q := 79) d_X12_findDistances_78 rfl ci_m1 ?_
      refine sm_icmp_ne (q := 82) (t := 96) d_X12_findDistances_79 rfl rfl (fun c7 => ?_) (fun c7 => ?_)
      · replace h := sm_if c7 h
        exact j_X12_findDistances_96 hx F kb34 kb44 hkb34 hkb44 x2 x3 M _ h
      · replace h := sm_it c7 h
        refine sm_aload_n (q := 83) d_X12_findDistances_82 rfl rfl ?_
        refine sm_getr (q := 86) d_X12_findDistances_83 rfl fl_X12_65 (hx sx_80) rfl ?_
        refine sm_aload_n (q := 87) d_X12_findDistances_86 rfl rfl ?_
        refine sm_getr (q := 90) d_X12_findDistances_87 rfl fl_X12_33 (hx sx_80) rfl ?_
        refine sm_iload_n (q := 91) d_X12_findDistances_90 rfl rfl ?_
        obtain ⟨g8, h⟩ := sm_gt h
        refine sm_iaload (q := 92) d_X12_findDistances_91 rfl (hx sx_85) (sm_ib_of g8) ?_
        refine sm_iload_n (q := 93) d_X12_findDistances_92 rfl rfl ?_
        refine sm_iconst (q := 94) d_X12_findDistances_93 rfl ci_1 ?_
        refine sm_iadd (q := 95) d_X12_findDistances_94 rfl ?_
        obtain ⟨g9, h⟩ := sm_gt h
        refine sm_iastore (q := 96) d_X12_findDistances_95 rfl (hx sx_95) (sm_ib_of g9) ?_
        exact j_X12_findDistances_96 hx F kb34 kb44 hkb34 hkb44 x2 x3 ((sm_mi M 95 (M.1 85 x3.toNatClampNeg).toNatClampNeg (x2 + (1 : Int32)))) _ h
def f_X12_findDistances_44 (F : Nat) (kb34 : Int32 → sm_M → Option (sm_M)) (n : Nat) : Int32 → Int32 → sm_M → Option (sm_M) := match n with
 | 0 => fun _ _ _ => none
 | n + 1 => f_X12_findDistances_44b F kb34 (f_X12_findDistances_44 F kb34 n)
theorem j_X12_findDistances_44 {sk : List sm_Sh} (hx : sm_ext skM sk) (F : Nat) (kb34 : Int32 → sm_M → Option (sm_M)) (hkb34 : ∀ (x2 : Int32) (M : sm_M) (r : sm_M), kb34 x2 M = some r → sm_J (md_X12_findDistances, 0, sk, .inl none, r) 34 [some (.ref 80), none, some (.int x2), none] [] M) : ∀ (n : Nat) (x2 : Int32) (x3 : Int32) (M : sm_M) (r : sm_M), f_X12_findDistances_44 F kb34 n x2 x3 M = some r → sm_J (md_X12_findDistances, 0, sk, .inl none, r) 44 [some (.ref 80), none, some (.int x2), some (.int x3)] [] M := by
  intro n
  induction n with
  | zero => intro x2 x3  M r h; exact nomatch (show (none : Option (sm_M)) = some r from h)
  | succ n ih => exact j_X12_findDistances_44b hx F kb34 (f_X12_findDistances_44 F kb34 n) hkb34 ih
def f_X12_findDistances_34b (F : Nat) (kb34 : Int32 → sm_M → Option (sm_M)) (x2 : Int32) (M : sm_M) : Option (sm_M) := if (M.1 80 7) ≤ x2 then (some M) else (f_X12_findDistances_44 F kb34 F x2 (0 : Int32) M)
set_option maxRecDepth 100000 in
set_option maxHeartbeats 4000000 in
theorem j_X12_findDistances_34b {sk : List sm_Sh} (hx : sm_ext skM sk) (F : Nat) (kb34 : Int32 → sm_M → Option (sm_M)) (hkb34 : ∀ (x2 : Int32) (M : sm_M) (r : sm_M), kb34 x2 M = some r → sm_J (md_X12_findDistances, 0, sk, .inl none, r) 34 [some (.ref 80), none, some (.int x2), none] [] M) : ∀ (x2 : Int32) (M : sm_M) (r : sm_M), f_X12_findDistances_34b F kb34 x2 M = some r → sm_J (md_X12_findDistances, 0, sk, .inl none, r) 34 [some (.ref 80), none, some (.int x2), none] [] M := by
  intro x2  M r h
  unfold f_X12_findDistances_34b at h
  refine sm_iload_n (q := 35) d_X12_findDistances_34 rfl rfl ?_
  refine sm_aload_n (q := 36) d_X12_findDistances_35 rfl rfl ?_
  refine sm_geti (q := 39) d_X12_findDistances_36 rfl fl_X12_100 (hx sx_80) rfl ?_
  refine sm_icmp_ge (q := 42) (t := 108) d_X12_findDistances_39 rfl rfl (fun c1 => ?_) (fun c1 => ?_)
  · replace h := sm_it c1 h
    obtain rfl := Option.some.inj h
    exact sm_vret d_X12_findDistances_108 rfl rfl rfl
  · replace h := sm_if c1 h
    refine sm_iconst (q := 43) d_X12_findDistances_42 rfl ci_0 ?_
    refine sm_istore_n (q := 44) (lt := [some (.ref 80), none, some (.int x2), some (.int (0 : Int32))]) d_X12_findDistances_43 rfl (Nat.le_of_ble_eq_true rfl) rfl rfl ?_
    exact j_X12_findDistances_44 hx F kb34 hkb34 F x2 (0 : Int32) M _ h
def f_X12_findDistances_34 (F : Nat) (n : Nat) : Int32 → sm_M → Option (sm_M) := match n with
 | 0 => fun _ _ => none
 | n + 1 => f_X12_findDistances_34b F (f_X12_findDistances_34 F n)
theorem j_X12_findDistances_34 {sk : List sm_Sh} (hx : sm_ext skM sk) (F : Nat) : ∀ (n : Nat) (x2 : Int32) (M : sm_M) (r : sm_M), f_X12_findDistances_34 F n x2 M = some r → sm_J (md_X12_findDistances, 0, sk, .inl none, r) 34 [some (.ref 80), none, some (.int x2), none] [] M := by
  intro n
  induction n with
  | zero => intro x2  M r h; exact nomatch (show (none : Option (sm_M)) = some r from h)
  | succ n ih => exact j_X12_findDistances_34b hx F (f_X12_findDistances_34 F n) ih
def f_X12_findDistances_2b (F : Nat) (kb2 : Int32 → Int32 → sm_M → Option (sm_M)) (x1 : Int32) (x2 : Int32) (M : sm_M) : Option (sm_M) := if (M.1 80 7) ≤ x2 then (f_X12_findDistances_34 F F (0 : Int32) M) else (if x2 = x1 then (f_X12_findDistances_25 F kb2 x1 x2 x2 (0 : Int32) M) else (f_X12_findDistances_25 F kb2 x1 x2 x2 (-1 : Int32) M))
set_option maxRecDepth 100000 in
set_option maxHeartbeats 4000000 in
theorem j_X12_findDistances_2b {sk : List sm_Sh} (hx : sm_ext skM sk) (F : Nat) (kb2 : Int32 → Int32 → sm_M → Option (sm_M)) (hkb2 : ∀ (x1 : Int32) (x2 : Int32) (M : sm_M) (r : sm_M), kb2 x1 x2 M = some r → sm_J (md_X12_findDistances, 0, sk, .inl none, r) 2 [some (.ref 80), some (.int x1), some (.int x2), none] [] M) : ∀ (x1 : Int32) (x2 : Int32) (M : sm_M) (r : sm_M), f_X12_findDistances_2b F kb2 x1 x2 M = some r → sm_J (md_X12_findDistances, 0, sk, .inl none, r) 2 [some (.ref 80), some (.int x1), some (.int x2), none] [] M := by
  intro x1 x2  M r h
  unfold f_X12_findDistances_2b at h
  refine sm_iload_n (q := 3) d_X12_findDistances_2 rfl rfl ?_
  refine sm_aload_n (q := 4) d_X12_findDistances_3 rfl rfl ?_
  refine sm_geti (q := 7) d_X12_findDistances_4 rfl fl_X12_100 (hx sx_80) rfl ?_
  refine sm_icmp_ge (q := 10) (t := 32) d_X12_findDistances_7 rfl rfl (fun c1 => ?_) (fun c1 => ?_)
  · replace h := sm_it c1 h
    refine sm_iconst (q := 33) d_X12_findDistances_32 rfl ci_0 ?_
    refine sm_istore_n (q := 34) (lt := [some (.ref 80), some (.int x1), some (.int (0 : Int32)), none]) d_X12_findDistances_33 rfl (Nat.le_of_ble_eq_true rfl) rfl rfl ?_
    refine sm_fg [1] ?_
    exact j_X12_findDistances_34 hx F F (0 : Int32) M _ h
  · replace h := sm_if c1 h
    refine sm_aload_n (q := 11) d_X12_findDistances_10 rfl rfl ?_
    refine sm_getr (q := 14) d_X12_findDistances_11 rfl fl_X12_65 (hx sx_80) rfl ?_
    refine sm_iload_n (q := 15) d_X12_findDistances_14 rfl rfl ?_
    refine sm_iload_n (q := 16) d_X12_findDistances_15 rfl rfl ?_
    refine sm_iload_n (q := 17) d_X12_findDistances_16 rfl rfl ?_
    refine sm_icmp_ne (q := 20) (t := 24) d_X12_findDistances_17 rfl rfl (fun c2 => ?_) (fun c2 => ?_)
    · replace h := sm_if c2 h
      refine sm_iconst (q := 25) d_X12_findDistances_24 rfl ci_m1 ?_
      exact j_X12_findDistances_25 hx F kb2 hkb2 x1 x2 x2 (-1 : Int32) M _ h
    · replace h := sm_it c2 h
      refine sm_iconst (q := 21) d_X12_findDistances_20 rfl ci_0 ?_
      refine sm_goto (t := 25) d_X12_findDistances_21 rfl ?_
      exact j_X12_findDistances_25 hx F kb2 hkb2 x1 x2 x2 (0 : Int32) M _ h
def f_X12_findDistances_2 (F : Nat) (n : Nat) : Int32 → Int32 → sm_M → Option (sm_M) := match n with
 | 0 => fun _ _ _ => none
 | n + 1 => f_X12_findDistances_2b F (f_X12_findDistances_2 F n)
theorem j_X12_findDistances_2 {sk : List sm_Sh} (hx : sm_ext skM sk) (F : Nat) : ∀ (n : Nat) (x1 : Int32) (x2 : Int32) (M : sm_M) (r : sm_M), f_X12_findDistances_2 F n x1 x2 M = some r → sm_J (md_X12_findDistances, 0, sk, .inl none, r) 2 [some (.ref 80), some (.int x1), some (.int x2), none] [] M := by
  intro n
  induction n with
  | zero => intro x1 x2  M r h; exact nomatch (show (none : Option (sm_M)) = some r from h)
  | succ n ih => exact j_X12_findDistances_2b hx F (f_X12_findDistances_2 F n) ih
def f_X12_findDistances (F : Nat) (x1 : Int32) (M : sm_M) : Option (sm_M) := f_X12_findDistances_2 F F x1 (0 : Int32) M
set_option maxRecDepth 100000 in
set_option maxHeartbeats 4000000 in
theorem j_X12_findDistances {sk : List sm_Sh} (hx : sm_ext skM sk) (F : Nat) : ∀ (x1 : Int32) (M : sm_M) (r : sm_M), f_X12_findDistances F x1 M = some r → sm_J (md_X12_findDistances, 0, sk, .inl none, r) 0 [some (.ref 80), some (.int x1), none, none] [] M := by
  intro x1  M r h
  unfold f_X12_findDistances at h
  refine sm_iconst (q := 1) d_X12_findDistances_0 rfl ci_0 ?_
  refine sm_istore_n (q := 2) (lt := [some (.ref 80), some (.int x1), some (.int (0 : Int32)), none]) d_X12_findDistances_1 rfl (Nat.le_of_ble_eq_true rfl) rfl rfl ?_
  exact j_X12_findDistances_2 hx F F x1 (0 : Int32) M _ h
theorem c_X12_findDistances {sk : List sm_Sh} (hx : sm_ext skM sk) (F : Nat) (x1 : Int32) (M : sm_M) (r : sm_M) (h : f_X12_findDistances F x1 M = some r) : sm_Ct yX12_findDistances md_X12_findDistances 0 sk [.ref 80, .int x1] M (.inl none) r := sm_enter 2 pn_X12 rfl (Nat.le_of_ble_eq_true rfl) rfl (j_X12_findDistances hx F x1 M r h)
/-! UniversalCyclesModel.distance(II)I -/
theorem d_X12_distance_0 : decode cX12_distance 0 = .ok (.aload_n 0, 1) := by decide +kernel
theorem d_X12_distance_1 : decode cX12_distance 1 = .ok (.iconst 0, 1) := by decide +kernel
theorem d_X12_distance_2 : decode cX12_distance 2 = .ok (.putfield 1, 3) := by decide +kernel
theorem d_X12_distance_5 : decode cX12_distance 5 = .ok (.aload_n 0, 1) := by decide +kernel
theorem d_X12_distance_6 : decode cX12_distance 6 = .ok (.getfield 90, 3) := by decide +kernel
theorem d_X12_distance_9 : decode cX12_distance 9 = .ok (.iconst 3, 1) := by decide +kernel
theorem d_X12_distance_10 : decode cX12_distance 10 = .ok (.if_icmp .ne 9, 3) := by decide +kernel
theorem d_X12_distance_13 : decode cX12_distance 13 = .ok (.aload_n 0, 1) := by decide +kernel
theorem d_X12_distance_14 : decode cX12_distance 14 = .ok (.iconst 1, 1) := by decide +kernel
theorem d_X12_distance_15 : decode cX12_distance 15 = .ok (.invokevirtual 122, 3) := by decide +kernel
theorem d_X12_distance_18 : decode cX12_distance 18 = .ok (.ireturn, 1) := by decide +kernel
theorem d_X12_distance_19 : decode cX12_distance 19 = .ok (.aload_n 0, 1) := by decide +kernel
theorem d_X12_distance_20 : decode cX12_distance 20 = .ok (.iload_n 1, 1) := by decide +kernel
theorem d_X12_distance_21 : decode cX12_distance 21 = .ok (.invokevirtual 207, 3) := by decide +kernel
theorem d_X12_distance_24 : decode cX12_distance 24 = .ok (.ifCond .eq 11, 3) := by decide +kernel
theorem d_X12_distance_27 : decode cX12_distance 27 = .ok (.aload_n 0, 1) := by decide +kernel
theorem d_X12_distance_28 : decode cX12_distance 28 = .ok (.iload_n 2, 1) := by decide +kernel
theorem d_X12_distance_29 : decode cX12_distance 29 = .ok (.invokevirtual 207, 3) := by decide +kernel
theorem d_X12_distance_32 : decode cX12_distance 32 = .ok (.ifCond .ne 9, 3) := by decide +kernel
theorem d_X12_distance_35 : decode cX12_distance 35 = .ok (.aload_n 0, 1) := by decide +kernel
theorem d_X12_distance_36 : decode cX12_distance 36 = .ok (.iconst 2, 1) := by decide +kernel
theorem d_X12_distance_37 : decode cX12_distance 37 = .ok (.invokevirtual 122, 3) := by decide +kernel
theorem d_X12_distance_40 : decode cX12_distance 40 = .ok (.ireturn, 1) := by decide +kernel
theorem d_X12_distance_41 : decode cX12_distance 41 = .ok (.aload_n 0, 1) := by decide +kernel
theorem d_X12_distance_42 : decode cX12_distance 42 = .ok (.iload_n 1, 1) := by decide +kernel
theorem d_X12_distance_43 : decode cX12_distance 43 = .ok (.invokevirtual 210, 3) := by decide +kernel
theorem d_X12_distance_46 : decode cX12_distance 46 = .ok (.aload_n 0, 1) := by decide +kernel
theorem d_X12_distance_47 : decode cX12_distance 47 = .ok (.getfield 65, 3) := by decide +kernel
theorem d_X12_distance_50 : decode cX12_distance 50 = .ok (.iload_n 2, 1) := by decide +kernel
theorem d_X12_distance_51 : decode cX12_distance 51 = .ok (.iaload, 1) := by decide +kernel
theorem d_X12_distance_52 : decode cX12_distance 52 = .ok (.iconst (-1), 1) := by decide +kernel
theorem d_X12_distance_53 : decode cX12_distance 53 = .ok (.if_icmp .ne 11, 3) := by decide +kernel
theorem d_X12_distance_56 : decode cX12_distance 56 = .ok (.aload_n 0, 1) := by decide +kernel
theorem d_X12_distance_57 : decode cX12_distance 57 = .ok (.iconst 3, 1) := by decide +kernel
theorem d_X12_distance_58 : decode cX12_distance 58 = .ok (.invokevirtual 122, 3) := by decide +kernel
theorem d_X12_distance_61 : decode cX12_distance 61 = .ok (.goto 9, 3) := by decide +kernel
theorem d_X12_distance_64 : decode cX12_distance 64 = .ok (.aload_n 0, 1) := by decide +kernel
theorem d_X12_distance_65 : decode cX12_distance 65 = .ok (.getfield 65, 3) := by decide +kernel
theorem d_X12_distance_68 : decode cX12_distance 68 = .ok (.iload_n 2, 1) := by decide +kernel
theorem d_X12_distance_69 : decode cX12_distance 69 = .ok (.iaload, 1) := by decide +kernel
theorem d_X12_distance_70 : decode cX12_distance 70 = .ok (.ireturn, 1) := by decide +kernel
def f_X12_distance_35 (F : Nat) (M : sm_M) : Option (Int32 × sm_M) := (f_X12_fail F (2 : Int32) M).bind fun q1 => some (q1.1, q1.2)
set_option maxRecDepth 100000 in
set_option maxHeartbeats 4000000 in
theorem j_X12_distance_35 {sk : List sm_Sh} (hx : sm_ext skM sk) (F : Nat) : ∀ (M : sm_M) (r : Int32 × sm_M), f_X12_distance_35 F M = some r → sm_J (md_X12_distance, 2, sk, .inl (some (.int r.1)), r.2) 35 [some (.ref 80), none, none] [] M := by
  intro   M r h
  unfold f_X12_distance_35 at h
  refine sm_aload_n (q := 36) d_X12_distance_35 rfl rfl ?_
  refine sm_iconst (q := 37) d_X12_distance_36 rfl ci_2 ?_
  obtain ⟨q1, e1, h⟩ := sm_bd h
  refine sm_callV (q := 40) (d' := 0) [] [.int (2 : Int32)] d_X12_distance_37 rfl lk_X12_122 (hx sx_80) rfl rfl rfl (Nat.le_of_ble_eq_true rfl) (Nat.le_of_ble_eq_true rfl) (c_X12_fail hx F (2 : Int32) M _ e1) (st9 := [.int q1.1]) rfl ?_
  obtain rfl := Option.some.inj h
  exact sm_iret d_X12_distance_40 rfl rfl rfl rfl
def f_X12_distance_70 (F : Nat) (y0 : Int32) (M : sm_M) : Option (Int32 × sm_M) := some (y0, M)
set_option maxRecDepth 100000 in
set_option maxHeartbeats 4000000 in
theorem j_X12_distance_70 {sk : List sm_Sh} (hx : sm_ext skM sk) (F : Nat) : ∀ (y0 : Int32) (M : sm_M) (r : Int32 × sm_M), f_X12_distance_70 F y0 M = some r → sm_J (md_X12_distance, 2, sk, .inl (some (.int r.1)), r.2) 70 [none, none, none] [.int y0] M := by
  intro y0  M r h
  unfold f_X12_distance_70 at h
  obtain rfl := Option.some.inj h
  exact sm_iret d_X12_distance_70 rfl rfl rfl rfl
def f_X12_distance (F : Nat) (x1 : Int32) (x2 : Int32) (M : sm_M) : Option (Int32 × sm_M) := if (((sm_mi M 80 0 (0 : Int32))).1 80 1) = (3 : Int32) then ((f_X12_fail F (1 : Int32) (sm_mi M 80 0 (0 : Int32))).bind fun q11 => some (q11.1, q11.2)) else ((f_X12_isVertex F x1 (sm_mi M 80 0 (0 : Int32))).bind fun q2 => if q2 = 0 then (f_X12_distance_35 F ((sm_mi M 80 0 (0 : Int32)))) else ((f_X12_isVertex F x2 (sm_mi M 80 0 (0 : Int32))).bind fun q4 => if q4 = 0 then (f_X12_distance_35 F ((sm_mi M 80 0 (0 : Int32)))) else ((f_X12_findDistances F x1 (sm_mi M 80 0 (0 : Int32))).bind fun q6 => sm_g (sm_ib x2 200) (if (q6.1 95 x2.toNatClampNeg) = (-1 : Int32) then ((f_X12_fail F (3 : Int32) q6).bind fun q10 => f_X12_distance_70 F q10.1 q10.2) else (sm_g (sm_ib x2 200) (f_X12_distance_70 F (q6.1 95 x2.toNatClampNeg) q6))))))
set_option maxRecDepth 100000 in
set_option maxHeartbeats 4000000 in
theorem j_X12_distance {sk : List sm_Sh} (hx : sm_ext skM sk) (F : Nat) : ∀ (x1 : Int32) (x2 : Int32) (M : sm_M) (r : Int32 × sm_M), f_X12_distance F x1 x2 M = some r → sm_J (md_X12_distance, 2, sk, .inl (some (.int r.1)), r.2) 0 [some (.ref 80), some (.int x1), some (.int x2)] [] M := by
  intro x1 x2  M r h
  unfold f_X12_distance at h
  refine sm_aload_n (q := 1) d_X12_distance_0 rfl rfl ?_
  refine sm_iconst (q := 2) d_X12_distance_1 rfl ci_0 ?_
  refine sm_puti (q := 5) d_X12_distance_2 rfl fw_X12_1 (hx sx_80) rfl rfl rfl ?_
  refine sm_aload_n (q := 6) d_X12_distance_5 rfl rfl ?_
  refine sm_geti (q := 9) d_X12_distance_6 rfl fl_X12_90 (hx sx_80) rfl ?_
  refine sm_iconst (q := 10) d_X12_distance_9 rfl ci_3 ?_
  refine sm_icmp_ne (q := 13) (t := 19) d_X12_distance_10 rfl rfl (fun c1 => ?_) (fun c1 => ?_)
  · replace h := sm_if c1 h
    refine sm_aload_n (q := 20) d_X12_distance_19 rfl rfl ?_
    refine sm_iload_n (q := 21) d_X12_distance_20 rfl rfl ?_
    obtain ⟨q2, e2, h⟩ := sm_bd h
    refine sm_callV (q := 24) (d' := 1) [] [.int x1] d_X12_distance_21 rfl lk_X12_207 (hx sx_80) rfl rfl rfl (Nat.le_of_ble_eq_true rfl) (Nat.le_of_ble_eq_true rfl) (c_X12_isVertex hx F x1 (sm_mi M 80 0 (0 : Int32)) _ e2) (st9 := [.int q2]) rfl ?_
    refine sm_if_eq (q := 27) (t := 35) d_X12_distance_24 rfl rfl (fun c3 => ?_) (fun c3 => ?_)
    · replace h := sm_it c3 h
      refine sm_fg [1, 2] ?_
      exact j_X12_distance_35 hx F ((sm_mi M 80 0 (0 : Int32))) _ h
    · replace h := sm_if c3 h
      refine sm_aload_n (q := 28) d_X12_distance_27 rfl rfl ?_
      refine sm_iload_n (q := 29) d_X12_distance_28 rfl rfl ?_
      obtain ⟨q4, e4, h⟩ := sm_bd h
      refine sm_callV (q := 32) (d' := 1) [] [.int x2] d_X12_distance_29 rfl lk_X12_207 (hx sx_80) rfl rfl rfl (Nat.le_of_ble_eq_true rfl) (Nat.le_of_ble_eq_true rfl) (c_X12_isVertex hx F x2 (sm_mi M 80 0 (0 : Int32)) _ e4) (st9 := [.int q4]) rfl ?_
      refine sm_if_ne (q := 35) (t := 41) d_X12_distance_32 rfl rfl (fun c5 => ?_) (fun c5 => ?_)
      · replace h := sm_if c5 h
        refine sm_aload_n (q := 42) d_X12_distance_41 rfl rfl ?_
        refine sm_iload_n (q := 43) d_X12_distance_42 rfl rfl ?_
        obtain ⟨q6, e6, h⟩ := sm_bd h
        refine sm_callV (q := 46) (d' := 0) [] [.int x1] d_X12_distance_43 rfl lk_X12_210 (hx sx_80) rfl rfl rfl (Nat.le_of_ble_eq_true rfl) (Nat.le_of_ble_eq_true rfl) (c_X12_findDistances hx F x1 (sm_mi M 80 0 (0 : Int32)) _ e6) (st9 := []) rfl ?_
        refine sm_aload_n (q := 47) d_X12_distance_46 rfl rfl ?_
        refine sm_getr (q := 50) d_X12_distance_47 rfl fl_X12_65 (hx sx_80) rfl ?_
        refine sm_iload_n (q := 51) d_X12_distance_50 rfl rfl ?_
        obtain ⟨g7, h⟩ := sm_gt h
        refine sm_iaload (q := 52) d_X12_distance_51 rfl (hx sx_95) (sm_ib_of g7) ?_
        refine sm_iconst (q := 53) d_X12_distance_52 rfl ci_m1 ?_
        refine sm_icmp_ne (q := 56) (t := 64) d_X12_distance_53 rfl rfl (fun c8 => ?_) (fun c8 => ?_)
        · replace h := sm_if c8 h
          refine sm_aload_n (q := 65) d_X12_distance_64 rfl rfl ?_
          refine sm_getr (q := 68) d_X12_distance_65 rfl fl_X12_65 (hx sx_80) rfl ?_
          refine sm_iload_n (q := 69) d_X12_distance_68 rfl rfl ?_
          obtain ⟨g9, h⟩ := sm_gt h
          refine sm_iaload (q := 70) d_X12_distance_69 rfl (hx sx_95) (sm_ib_of g9) ?_
          refine sm_fg [0, 1, 2] ?_
          exact j_X12_distance_70 hx F (q6.1 95 x2.toNatClampNeg) q6 _ h
        · replace h := sm_it c8 h
          refine sm_aload_n (q := 57) d_X12_distance_56 rfl rfl ?_
          refine sm_iconst (q := 58) d_X12_distance_57 rfl ci_3 ?_
          obtain ⟨q10, e10, h⟩ := sm_bd h
          refine sm_callV (q := 61) (d' := 0) [] [.int (3 : Int32)] d_X12_distance_58 rfl lk_X12_122 (hx sx_80) rfl rfl rfl (Nat.le_of_ble_eq_true rfl) (Nat.le_of_ble_eq_true rfl) (c_X12_fail hx F (3 : Int32) q6 _ e10) (st9 := [.int q10.1]) rfl ?_
          refine sm_goto (t := 70) d_X12_distance_61 rfl ?_
          refine sm_fg [0, 1, 2] ?_
          exact j_X12_distance_70 hx F q10.1 q10.2 _ h
      · replace h := sm_it c5 h
        refine sm_fg [1, 2] ?_
        exact j_X12_distance_35 hx F ((sm_mi M 80 0 (0 : Int32))) _ h
  · replace h := sm_it c1 h
    refine sm_aload_n (q := 14) d_X12_distance_13 rfl rfl ?_
    refine sm_iconst (q := 15) d_X12_distance_14 rfl ci_1 ?_
    obtain ⟨q11, e11, h⟩ := sm_bd h
    refine sm_callV (q := 18) (d' := 0) [] [.int (1 : Int32)] d_X12_distance_15 rfl lk_X12_122 (hx sx_80) rfl rfl rfl (Nat.le_of_ble_eq_true rfl) (Nat.le_of_ble_eq_true rfl) (c_X12_fail hx F (1 : Int32) (sm_mi M 80 0 (0 : Int32)) _ e11) (st9 := [.int q11.1]) rfl ?_
    obtain rfl := Option.some.inj h
    exact sm_iret d_X12_distance_18 rfl rfl rfl rfl
theorem c_X12_distance {sk : List sm_Sh} (hx : sm_ext skM sk) (F : Nat) (x1 : Int32) (x2 : Int32) (M : sm_M) (r : Int32 × sm_M) (h : f_X12_distance F x1 x2 M = some r) : sm_Ct yX12_distance md_X12_distance 2 sk [.ref 80, .int x1, .int x2] M (.inl (some (.int r.1))) r.2 := sm_enter 0 pn_X12 rfl (Nat.le_of_ble_eq_true rfl) rfl (j_X12_distance hx F x1 x2 M r h)
/-! UniversalCyclesModel.componentOf(I)I -/
theorem d_X12_componentOf_0 : decode cX12_componentOf 0 = .ok (.aload_n 0, 1) := by decide +kernel
theorem d_X12_componentOf_1 : decode cX12_componentOf 1 = .ok (.iconst 0, 1) := by decide +kernel
theorem d_X12_componentOf_2 : decode cX12_componentOf 2 = .ok (.putfield 1, 3) := by decide +kernel
theorem d_X12_componentOf_5 : decode cX12_componentOf 5 = .ok (.aload_n 0, 1) := by decide +kernel
theorem d_X12_componentOf_6 : decode cX12_componentOf 6 = .ok (.getfield 90, 3) := by decide +kernel
theorem d_X12_componentOf_9 : decode cX12_componentOf 9 = .ok (.iconst 3, 1) := by decide +kernel
theorem d_X12_componentOf_10 : decode cX12_componentOf 10 = .ok (.if_icmp .eq 11, 3) := by decide +kernel
theorem d_X12_componentOf_13 : decode cX12_componentOf 13 = .ok (.aload_n 0, 1) := by decide +kernel
theorem d_X12_componentOf_14 : decode cX12_componentOf 14 = .ok (.iload_n 1, 1) := by decide +kernel
theorem d_X12_componentOf_15 : decode cX12_componentOf 15 = .ok (.invokevirtual 207, 3) := by decide +kernel
theorem d_X12_componentOf_18 : decode cX12_componentOf 18 = .ok (.ifCond .ne 21, 3) := by decide +kernel
theorem d_X12_componentOf_21 : decode cX12_componentOf 21 = .ok (.aload_n 0, 1) := by decide +kernel
theorem d_X12_componentOf_22 : decode cX12_componentOf 22 = .ok (.aload_n 0, 1) := by decide +kernel
theorem d_X12_componentOf_23 : decode cX12_componentOf 23 = .ok (.getfield 90, 3) := by decide +kernel
theorem d_X12_componentOf_26 : decode cX12_componentOf 26 = .ok (.iconst 3, 1) := by decide +kernel
theorem d_X12_componentOf_27 : decode cX12_componentOf 27 = .ok (.if_icmp .ne 7, 3) := by decide +kernel
theorem d_X12_componentOf_30 : decode cX12_componentOf 30 = .ok (.iconst 1, 1) := by decide +kernel
theorem d_X12_componentOf_31 : decode cX12_componentOf 31 = .ok (.goto 4, 3) := by decide +kernel
theorem d_X12_componentOf_34 : decode cX12_componentOf 34 = .ok (.iconst 2, 1) := by decide +kernel
theorem d_X12_componentOf_35 : decode cX12_componentOf 35 = .ok (.invokevirtual 122, 3) := by decide +kernel
theorem d_X12_componentOf_38 : decode cX12_componentOf 38 = .ok (.ireturn, 1) := by decide +kernel
theorem d_X12_componentOf_39 : decode cX12_componentOf 39 = .ok (.iconst 0, 1) := by decide +kernel
theorem d_X12_componentOf_40 : decode cX12_componentOf 40 = .ok (.istore_n 2, 1) := by decide +kernel
theorem d_X12_componentOf_41 : decode cX12_componentOf 41 = .ok (.iload_n 2, 1) := by decide +kernel
theorem d_X12_componentOf_42 : decode cX12_componentOf 42 = .ok (.iload_n 1, 1) := by decide +kernel
theorem d_X12_componentOf_43 : decode cX12_componentOf 43 = .ok (.if_icmp .ge 51, 3) := by decide +kernel
theorem d_X12_componentOf_46 : decode cX12_componentOf 46 = .ok (.aload_n 0, 1) := by decide +kernel
theorem d_X12_componentOf_47 : decode cX12_componentOf 47 = .ok (.iload_n 1, 1) := by decide +kernel
theorem d_X12_componentOf_48 : decode cX12_componentOf 48 = .ok (.invokevirtual 210, 3) := by decide +kernel
theorem d_X12_componentOf_51 : decode cX12_componentOf 51 = .ok (.aload_n 0, 1) := by decide +kernel
theorem d_X12_componentOf_52 : decode cX12_componentOf 52 = .ok (.getfield 65, 3) := by decide +kernel
theorem d_X12_componentOf_55 : decode cX12_componentOf 55 = .ok (.iload_n 2, 1) := by decide +kernel
theorem d_X12_componentOf_56 : decode cX12_componentOf 56 = .ok (.iaload, 1) := by decide +kernel
theorem d_X12_componentOf_57 : decode cX12_componentOf 57 = .ok (.iconst (-1), 1) := by decide +kernel
theorem d_X12_componentOf_58 : decode cX12_componentOf 58 = .ok (.if_icmp .eq 7, 3) := by decide +kernel
theorem d_X12_componentOf_61 : decode cX12_componentOf 61 = .ok (.iconst 1, 1) := by decide +kernel
theorem d_X12_componentOf_62 : decode cX12_componentOf 62 = .ok (.goto 4, 3) := by decide +kernel
theorem d_X12_componentOf_65 : decode cX12_componentOf 65 = .ok (.iconst 0, 1) := by decide +kernel
theorem d_X12_componentOf_66 : decode cX12_componentOf 66 = .ok (.istore_n 3, 1) := by decide +kernel
theorem d_X12_componentOf_67 : decode cX12_componentOf 67 = .ok (.aload_n 0, 1) := by decide +kernel
theorem d_X12_componentOf_68 : decode cX12_componentOf 68 = .ok (.iload_n 2, 1) := by decide +kernel
theorem d_X12_componentOf_69 : decode cX12_componentOf 69 = .ok (.invokevirtual 210, 3) := by decide +kernel
theorem d_X12_componentOf_72 : decode cX12_componentOf 72 = .ok (.iload_n 3, 1) := by decide +kernel
theorem d_X12_componentOf_73 : decode cX12_componentOf 73 = .ok (.ifCond .eq 15, 3) := by decide +kernel
theorem d_X12_componentOf_76 : decode cX12_componentOf 76 = .ok (.aload_n 0, 1) := by decide +kernel
theorem d_X12_componentOf_77 : decode cX12_componentOf 77 = .ok (.getfield 65, 3) := by decide +kernel
theorem d_X12_componentOf_80 : decode cX12_componentOf 80 = .ok (.iload_n 1, 1) := by decide +kernel
theorem d_X12_componentOf_81 : decode cX12_componentOf 81 = .ok (.iaload, 1) := by decide +kernel
theorem d_X12_componentOf_82 : decode cX12_componentOf 82 = .ok (.iconst (-1), 1) := by decide +kernel
theorem d_X12_componentOf_83 : decode cX12_componentOf 83 = .ok (.if_icmp .eq 5, 3) := by decide +kernel
theorem d_X12_componentOf_86 : decode cX12_componentOf 86 = .ok (.iload_n 2, 1) := by decide +kernel
theorem d_X12_componentOf_87 : decode cX12_componentOf 87 = .ok (.ireturn, 1) := by decide +kernel
theorem d_X12_componentOf_88 : decode cX12_componentOf 88 = .ok (.iinc 2 1, 3) := by decide +kernel
theorem d_X12_componentOf_91 : decode cX12_componentOf 91 = .ok (.goto (-50), 3) := by decide +kernel
theorem d_X12_componentOf_94 : decode cX12_componentOf 94 = .ok (.iload_n 1, 1) := by decide +kernel
theorem d_X12_componentOf_95 : decode cX12_componentOf 95 = .ok (.ireturn, 1) := by decide +kernel
def f_X12_componentOf_35 (F : Nat) (y1 : Int32) (M : sm_M) : Option (Int32 × sm_M) := (f_X12_fail F y1 M).bind fun q1 => some (q1.1, q1.2)
set_option maxRecDepth 100000 in
set_option maxHeartbeats 4000000 in
theorem j_X12_componentOf_35 {sk : List sm_Sh} (hx : sm_ext skM sk) (F : Nat) : ∀ (y1 : Int32) (M : sm_M) (r : Int32 × sm_M), f_X12_componentOf_35 F y1 M = some r → sm_J (md_X12_componentOf, 2, sk, .inl (some (.int r.1)), r.2) 35 [none, none, none, none] [.int y1, .ref 80] M := by
  intro y1  M r h
  unfold f_X12_componentOf_35 at h
  obtain ⟨q1, e1, h⟩ := sm_bd h
  refine sm_callV (q := 38) (d' := 0) [] [.int y1] d_X12_componentOf_35 rfl lk_X12_122 (hx sx_80) rfl rfl rfl (Nat.le_of_ble_eq_true rfl) (Nat.le_of_ble_eq_true rfl) (c_X12_fail hx F y1 M _ e1) (st9 := [.int q1.1]) rfl ?_
  obtain rfl := Option.some.inj h
  exact sm_iret d_X12_componentOf_38 rfl rfl rfl rfl
def f_X12_componentOf_21 (F : Nat) (M : sm_M) : Option (Int32 × sm_M) := if (M.1 80 1) = (3 : Int32) then (f_X12_componentOf_35 F (1 : Int32) M) else (f_X12_componentOf_35 F (2 : Int32) M)
set_option maxRecDepth 100000 in
set_option maxHeartbeats 4000000 in
theorem j_X12_componentOf_21 {sk : List sm_Sh} (hx : sm_ext skM sk) (F : Nat) : ∀ (M : sm_M) (r : Int32 × sm_M), f_X12_componentOf_21 F M = some r → sm_J (md_X12_componentOf, 2, sk, .inl (some (.int r.1)), r.2) 21 [some (.ref 80), none, none, none] [] M := by
  intro   M r h
  unfold f_X12_componentOf_21 at h
  refine sm_aload_n (q := 22) d_X12_componentOf_21 rfl rfl ?_
  refine sm_aload_n (q := 23) d_X12_componentOf_22 rfl rfl ?_
  refine sm_geti (q := 26) d_X12_componentOf_23 rfl fl_X12_90 (hx sx_80) rfl ?_
  refine sm_iconst (q := 27) d_X12_componentOf_26 rfl ci_3 ?_
  refine sm_icmp_ne (q := 30) (t := 34) d_X12_componentOf_27 rfl rfl (fun c1 => ?_) (fun c1 => ?_)
  · replace h := sm_if c1 h
    refine sm_iconst (q := 35) d_X12_componentOf_34 rfl ci_2 ?_
    refine sm_fg [0] ?_
    exact j_X12_componentOf_35 hx F (2 : Int32) M _ h
  · replace h := sm_it c1 h
    refine sm_iconst (q := 31) d_X12_componentOf_30 rfl ci_1 ?_
    refine sm_goto (t := 35) d_X12_componentOf_31 rfl ?_
    refine sm_fg [0] ?_
    exact j_X12_componentOf_35 hx F (1 : Int32) M _ h
def f_X12_componentOf_88 (F : Nat) (kb41 : Int32 → Int32 → sm_M → Option (Int32 × sm_M)) (x1 : Int32) (x2 : Int32) (M : sm_M) : Option (Int32 × sm_M) := kb41 x1 (x2 + 1) M
set_option maxRecDepth 100000 in
set_option maxHeartbeats 4000000 in
theorem j_X12_componentOf_88 {sk : List sm_Sh} (hx : sm_ext skM sk) (F : Nat) (kb41 : Int32 → Int32 → sm_M → Option (Int32 × sm_M)) (hkb41 : ∀ (x1 : Int32) (x2 : Int32) (M : sm_M) (r : Int32 × sm_M), kb41 x1 x2 M = some r → sm_J (md_X12_componentOf, 2, sk, .inl (some (.int r.1)), r.2) 41 [some (.ref 80), some (.int x1), some (.int x2), none] [] M) : ∀ (x1 : Int32) (x2 : Int32) (M : sm_M) (r : Int32 × sm_M), f_X12_componentOf_88 F kb41 x1 x2 M = some r → sm_J (md_X12_componentOf, 2, sk, .inl (some (.int r.1)), r.2) 88 [some (.ref 80), some (.int x1), some (.int x2), none] [] M := by
  intro x1 x2  M r h
  unfold f_X12_componentOf_88 at h
  refine sm_iinc (q := 91) (v := (x2 + 1)) (lt := [some (.ref 80), some (.int x1), some (.int (x2 + 1)), none]) d_X12_componentOf_88 rfl rfl (ii_1 _) (Nat.le_of_ble_eq_true rfl) rfl rfl ?_
  refine sm_goto (t := 41) d_X12_componentOf_91 rfl ?_
  exact hkb41 x1 (x2 + 1) M _ h
def f_X12_componentOf_66 (F : Nat) (kb41 : Int32 → Int32 → sm_M → Option (Int32 × sm_M)) (x1 : Int32) (x2 : Int32) (y0 : Int32) (M : sm_M) : Option (Int32 × sm_M) := (f_X12_findDistances F x2 M).bind fun q1 => if y0 = 0 then (f_X12_componentOf_88 F kb41 x1 x2 q1) else (sm_g (sm_ib x1 200) (if (q1.1 95 x1.toNatClampNeg) = (-1 : Int32) then (f_X12_componentOf_88 F kb41 x1 x2 q1) else (some (x2, q1))))
set_option maxRecDepth 100000 in
set_option maxHeartbeats 4000000 in
theorem j_X12_componentOf_66 {sk : List sm_Sh} (hx : sm_ext skM sk) (F : Nat) (kb41 : Int32 → Int32 → sm_M → Option (Int32 × sm_M)) (hkb41 : ∀ (x1 : Int32) (x2 : Int32) (M : sm_M) (r : Int32 × sm_M), kb41 x1 x2 M = some r → sm_J (md_X12_componentOf, 2, sk, .inl (some (.int r.1)), r.2) 41 [some (.ref 80), some (.int x1), some (.int x2), none] [] M) : ∀ (x1 : Int32) (x2 : Int32) (y0 : Int32) (M : sm_M) (r : Int32 × sm_M), f_X12_componentOf_66 F kb41 x1 x2 y0 M = some r → sm_J (md_X12_componentOf, 2, sk, .inl (some (.int r.1)), r.2) 66 [some (.ref 80), some (.int x1), some (.int x2), none] [.int y0] M := by
  intro x1 x2 y0  M r h
  unfold f_X12_componentOf_66 at h
  refine sm_istore_n (q := 67) (lt := [some (.ref 80), some (.int x1), some (.int x2), some (.int y0)]) d_X12_componentOf_66 rfl (Nat.le_of_ble_eq_true rfl) rfl rfl ?_
  refine sm_aload_n (q := 68) d_X12_componentOf_67 rfl rfl ?_
  refine sm_iload_n (q := 69) d_X12_componentOf_68 rfl rfl ?_
  obtain ⟨q1, e1, h⟩ := sm_bd h
  refine sm_callV (q := 72) (d' := 0) [] [.int x2] d_X12_componentOf_69 rfl lk_X12_210 (hx sx_80) rfl rfl rfl (Nat.le_of_ble_eq_true rfl) (Nat.le_of_ble_eq_true rfl) (c_X12_findDistances hx F x2 M _ e1) (st9 := []) rfl ?_
  refine sm_iload_n (q := 73) d_X12_componentOf_72 rfl rfl ?_
  refine sm_if_eq (q := 76) (t := 88) d_X12_componentOf_73 rfl rfl (fun c2 => ?_) (fun c2 => ?_)
  · replace h := sm_it c2 h
    refine sm_fg [3] ?_
    exact j_X12_componentOf_88 hx F kb41 hkb41 x1 x2 q1 _ h
  · replace h := sm_if c2 h
    refine sm_aload_n (q := 77) d_X12_componentOf_76 rfl rfl ?_
    refine sm_getr (q := 80) d_X12_componentOf_77 rfl fl_X12_65 (hx sx_80) rfl ?_
    refine sm_iload_n (q := 81) d_X12_componentOf_80 rfl rfl ?_
    obtain ⟨g3, h⟩ := sm_gt h
    refine sm_iaload (q := 82) d_X12_componentOf_81 rfl (hx sx_95) (sm_ib_of g3) ?_
    refine sm_iconst (q := 83) d_X12_componentOf_82 rfl ci_m1 ?_
    refine sm_icmp_eq (q := 86) (t := 88) d_X12_componentOf_83 rfl rfl (fun c4 => ?_) (fun c4 => ?_)
    · replace h := sm_it c4 h
      refine sm_fg [3] ?_
      exact j_X12_componentOf_88 hx F kb41 hkb41 x1 x2 q1 _ h
    · replace h := sm_if c4 h
      refine sm_iload_n (q := 87) d_X12_componentOf_86 rfl rfl ?_
      obtain rfl := Option.some.inj h
      exact sm_iret d_X12_componentOf_87 rfl rfl rfl rfl
def f_X12_componentOf_41b (F : Nat) (kb41 : Int32 → Int32 → sm_M → Option (Int32 × sm_M)) (x1 : Int32) (x2 : Int32) (M : sm_M) : Option (Int32 × sm_M) := if x1 ≤ x2 then (some (x1, M)) else ((f_X12_findDistances F x1 M).bind fun q2 => sm_g (sm_ib x2 200) (if (q2.1 95 x2.toNatClampNeg) = (-1 : Int32) then (f_X12_componentOf_66 F kb41 x1 x2 (0 : Int32) q2) else (f_X12_componentOf_66 F kb41 x1 x2 (1 : Int32) q2)))
set_option maxRecDepth 100000 in
set_option maxHeartbeats 4000000 in
theorem j_X12_componentOf_41b {sk : List sm_Sh} (hx : sm_ext skM sk) (F : Nat) (kb41 : Int32 → Int32 → sm_M → Option (Int32 × sm_M)) (hkb41 : ∀ (x1 : Int32) (x2 : Int32) (M : sm_M) (r : Int32 × sm_M), kb41 x1 x2 M = some r → sm_J (md_X12_componentOf, 2, sk, .inl (some (.int r.1)), r.2) 41 [some (.ref 80), some (.int x1), some (.int x2), none] [] M) : ∀ (x1 : Int32) (x2 : Int32) (M : sm_M) (r : Int32 × sm_M), f_X12_componentOf_41b F kb41 x1 x2 M = some r → sm_J (md_X12_componentOf, 2, sk, .inl (some (.int r.1)), r.2) 41 [some (.ref 80), some (.int x1), some (.int x2), none] [] M := by
  intro x1 x2  M r h
  unfold f_X12_componentOf_41b at h
  refine sm_iload_n (q := 42) d_X12_componentOf_41 rfl rfl ?_
  refine sm_iload_n (q := 43) d_X12_componentOf_42 rfl rfl ?_
  refine sm_icmp_ge (q := 46) (t := 94) d_X12_componentOf_43 rfl rfl (fun c1 => ?_) (fun c1 => ?_)
  · replace h := sm_it c1 h
    refine sm_iload_n (q := 95) d_X12_componentOf_94 rfl rfl ?_
    obtain rfl := Option.some.inj h
    exact sm_iret d_X12_componentOf_95 rfl rfl rfl rfl
  · replace h := sm_if c1 h
    refine sm_aload_n (q := 47) d_X12_componentOf_46 rfl rfl ?_
    refine sm_iload_n (q := 48) d_X12_componentOf_47 rfl rfl ?_
    obtain ⟨q2, e2, h⟩ := sm_bd h
    refine sm_callV (q := 51) (d' := 0) [] [.int x1] d_X12_componentOf_48 rfl lk_X12_210 (hx sx_80) rfl rfl rfl (Nat.le_of_ble_eq_true rfl) (Nat.le_of_ble_eq_true rfl) (c_X12_findDistances hx F x1 M _ e2) (st9 := []) rfl ?_
    refine sm_aload_n (q := 52) d_X12_componentOf_51 rfl rfl ?_
    refine sm_getr (q := 55) d_X12_componentOf_52 rfl fl_X12_65 (hx sx_80) rfl ?_
    refine sm_iload_n (q := 56) d_X12_componentOf_55 rfl rfl ?_
    obtain ⟨g3, h⟩ := sm_gt h
    refine sm_iaload (q := 57) d_X12_componentOf_56 rfl (hx sx_95) (sm_ib_of g3) ?_
    refine sm_iconst (q := 58) d_X12_componentOf_57 rfl ci_m1 ?_
    refine sm_icmp_eq (q := 61) (t := 65) d_X12_componentOf_58 rfl rfl (fun c4 => ?_) (fun c4 => ?_)
    · replace h := sm_it c4 h
      refine sm_iconst (q := 66) d_X12_componentOf_65 rfl ci_0 ?_
      exact j_X12_componentOf_66 hx F kb41 hkb41 x1 x2 (0 : Int32) q2 _ h
    · replace h := sm_if c4 h
      refine sm_iconst (q := 62) d_X12_componentOf_61 rfl ci_1 ?_
      refine sm_goto (t := 66) d_X12_componentOf_62 rfl ?_
      exact j_X12_componentOf_66 hx F kb41 hkb41 x1 x2 (1 : Int32) q2 _ h
def f_X12_componentOf_41 (F : Nat) (n : Nat) : Int32 → Int32 → sm_M → Option (Int32 × sm_M) := match n with
 | 0 => fun _ _ _ => none
 | n + 1 => f_X12_componentOf_41b F (f_X12_componentOf_41 F n)
theorem j_X12_componentOf_41 {sk : List sm_Sh} (hx : sm_ext skM sk) (F : Nat) : ∀ (n : Nat) (x1 : Int32) (x2 : Int32) (M : sm_M) (r : Int32 × sm_M), f_X12_componentOf_41 F n x1 x2 M = some r → sm_J (md_X12_componentOf, 2, sk, .inl (some (.int r.1)), r.2) 41 [some (.ref 80), some (.int x1), some (.int x2), none] [] M := by
  intro n
  induction n with
  | zero => intro x1 x2  M r h; exact nomatch (show (none : Option (Int32 × sm_M)) = some r from h)
  | succ n ih => exact j_X12_componentOf_41b hx F (f_X12_componentOf_41 F n) ih
def f_X12_componentOf (F : Nat) (x1 : Int32) (M : sm_M) : Option (Int32 × sm_M) := if (((sm_mi M 80 0 (0 : Int32))).1 80 1) = (3 : Int32) then (f_X12_componentOf_21 F ((sm_mi M 80 0 (0 : Int32)))) else ((f_X12_isVertex F x1 (sm_mi M 80 0 (0 : Int32))).bind fun q2 => if q2 = 0 then (f_X12_componentOf_21 F ((sm_mi M 80 0 (0 : Int32)))) else (f_X12_componentOf_41 F F x1 (0 : Int32) ((sm_mi M 80 0 (0 : Int32)))))
set_option maxRecDepth 100000 in
set_option maxHeartbeats 4000000 in
theorem j_X12_componentOf {sk : List sm_Sh} (hx : sm_ext skM sk) (F : Nat) : ∀ (x1 : Int32) (M : sm_M) (r : Int32 × sm_M), f_X12_componentOf F x1 M = some r → sm_J (md_X12_componentOf, 2, sk, .inl (some (.int r.1)), r.2) 0 [some (.ref 80), some (.int x1), none, none] [] M := by
  intro x1  M r h
  unfold f_X12_componentOf at h
  refine sm_aload_n (q := 1) d_X12_componentOf_0 rfl rfl ?_
  refine sm_iconst (q := 2) d_X12_componentOf_1 rfl ci_0 ?_
  refine sm_puti (q := 5) d_X12_componentOf_2 rfl fw_X12_1 (hx sx_80) rfl rfl rfl ?_
  refine sm_aload_n (q := 6) d_X12_componentOf_5 rfl rfl ?_
  refine sm_geti (q := 9) d_X12_componentOf_6 rfl fl_X12_90 (hx sx_80) rfl ?_
  refine sm_iconst (q := 10) d_X12_componentOf_9 rfl ci_3 ?_
  refine sm_icmp_eq (q := 13) (t := 21) d_X12_componentOf_10 rfl rfl (fun c1 => ?_) (fun c1 => ?_)
  · replace h := sm_it c1 h
    refine sm_fg [1] ?_
    exact j_X12_componentOf_21 hx F ((sm_mi M 80 0 (0 : Int32))) _ h
  · replace h := sm_if c1 h
    refine sm_aload_n (q := 14) d_X12_componentOf_13 rfl rfl ?_
    refine sm_iload_n (q := 15) d_X12_componentOf_14 rfl rfl ?_
    obtain ⟨q2, e2, h⟩ := sm_bd h
    refine sm_callV (q := 18) (d' := 1) [] [.int x1] d_X12_componentOf_15 rfl lk_X12_207 (hx sx_80) rfl rfl rfl (Nat.le_of_ble_eq_true rfl) (Nat.le_of_ble_eq_true rfl) (c_X12_isVertex hx F x1 (sm_mi M 80 0 (0 : Int32)) _ e2) (st9 := [.int q2]) rfl ?_
    refine sm_if_ne (q := 21) (t := 39) d_X12_componentOf_18 rfl rfl (fun c3 => ?_) (fun c3 => ?_)
    · replace h := sm_if c3 h
      refine sm_iconst (q := 40) d_X12_componentOf_39 rfl ci_0 ?_
      refine sm_istore_n (q := 41) (lt := [some (.ref 80), some (.int x1), some (.int (0 : Int32)), none]) d_X12_componentOf_40 rfl (Nat.le_of_ble_eq_true rfl) rfl rfl ?_
      exact j_X12_componentOf_41 hx F F x1 (0 : Int32) ((sm_mi M 80 0 (0 : Int32))) _ h
    · replace h := sm_it c3 h
      refine sm_fg [1] ?_
      exact j_X12_componentOf_21 hx F ((sm_mi M 80 0 (0 : Int32))) _ h
theorem c_X12_componentOf {sk : List sm_Sh} (hx : sm_ext skM sk) (F : Nat) (x1 : Int32) (M : sm_M) (r : Int32 × sm_M) (h : f_X12_componentOf F x1 M = some r) : sm_Ct yX12_componentOf md_X12_componentOf 2 sk [.ref 80, .int x1] M (.inl (some (.int r.1))) r.2 := sm_enter 2 pn_X12 rfl (Nat.le_of_ble_eq_true rfl) rfl (j_X12_componentOf hx F x1 M r h)
/-! UniversalCyclesModel.findCircuit()Z -/
theorem d_X12_findCircuit_0 : decode cX12_findCircuit 0 = .ok (.iconst 0, 1) := by decide +kernel
theorem d_X12_findCircuit_1 : decode cX12_findCircuit 1 = .ok (.istore_n 1, 1) := by decide +kernel
theorem d_X12_findCircuit_2 : decode cX12_findCircuit 2 = .ok (.iload_n 1, 1) := by decide +kernel
theorem d_X12_findCircuit_3 : decode cX12_findCircuit 3 = .ok (.aload_n 0, 1) := by decide +kernel
theorem d_X12_findCircuit_4 : decode cX12_findCircuit 4 = .ok (.getfield 97, 3) := by decide +kernel
theorem d_X12_findCircuit_7 : decode cX12_findCircuit 7 = .ok (.if_icmp .ge 16, 3) := by decide +kernel
theorem d_X12_findCircuit_10 : decode cX12_findCircuit 10 = .ok (.aload_n 0, 1) := by decide +kernel
theorem d_X12_findCircuit_11 : decode cX12_findCircuit 11 = .ok (.getfield 68, 3) := by decide +kernel
theorem d_X12_findCircuit_14 : decode cX12_findCircuit 14 = .ok (.iload_n 1, 1) := by decide +kernel
theorem d_X12_findCircuit_15 : decode cX12_findCircuit 15 = .ok (.iconst 0, 1) := by decide +kernel
theorem d_X12_findCircuit_16 : decode cX12_findCircuit 16 = .ok (.bastore, 1) := by decide +kernel
theorem d_X12_findCircuit_17 : decode cX12_findCircuit 17 = .ok (.iinc 1 1, 3) := by decide +kernel
theorem d_X12_findCircuit_20 : decode cX12_findCircuit 20 = .ok (.goto (-18), 3) := by decide +kernel
theorem d_X12_findCircuit_23 : decode cX12_findCircuit 23 = .ok (.iconst 1, 1) := by decide +kernel
theorem d_X12_findCircuit_24 : decode cX12_findCircuit 24 = .ok (.istore_n 1, 1) := by decide +kernel
theorem d_X12_findCircuit_25 : decode cX12_findCircuit 25 = .ok (.aload_n 0, 1) := by decide +kernel
theorem d_X12_findCircuit_26 : decode cX12_findCircuit 26 = .ok (.getfield 97, 3) := by decide +kernel
theorem d_X12_findCircuit_29 : decode cX12_findCircuit 29 = .ok (.istore_n 2, 1) := by decide +kernel
theorem d_X12_findCircuit_30 : decode cX12_findCircuit 30 = .ok (.aload_n 0, 1) := by decide +kernel
theorem d_X12_findCircuit_31 : decode cX12_findCircuit 31 = .ok (.getfield 71, 3) := by decide +kernel
theorem d_X12_findCircuit_34 : decode cX12_findCircuit 34 = .ok (.iconst 0, 1) := by decide +kernel
theorem d_X12_findCircuit_35 : decode cX12_findCircuit 35 = .ok (.iconst 0, 1) := by decide +kernel
theorem d_X12_findCircuit_36 : decode cX12_findCircuit 36 = .ok (.iastore, 1) := by decide +kernel
theorem d_X12_findCircuit_37 : decode cX12_findCircuit 37 = .ok (.aload_n 0, 1) := by decide +kernel
theorem d_X12_findCircuit_38 : decode cX12_findCircuit 38 = .ok (.getfield 74, 3) := by decide +kernel
theorem d_X12_findCircuit_41 : decode cX12_findCircuit 41 = .ok (.iconst 0, 1) := by decide +kernel
theorem d_X12_findCircuit_42 : decode cX12_findCircuit 42 = .ok (.iconst (-1), 1) := by decide +kernel
theorem d_X12_findCircuit_43 : decode cX12_findCircuit 43 = .ok (.iastore, 1) := by decide +kernel
theorem d_X12_findCircuit_44 : decode cX12_findCircuit 44 = .ok (.iload_n 1, 1) := by decide +kernel
theorem d_X12_findCircuit_45 : decode cX12_findCircuit 45 = .ok (.ifCond .le 119, 3) := by decide +kernel
theorem d_X12_findCircuit_48 : decode cX12_findCircuit 48 = .ok (.iconst 0, 1) := by decide +kernel
theorem d_X12_findCircuit_49 : decode cX12_findCircuit 49 = .ok (.istore_n 3, 1) := by decide +kernel
theorem d_X12_findCircuit_50 : decode cX12_findCircuit 50 = .ok (.iload_n 3, 1) := by decide +kernel
theorem d_X12_findCircuit_51 : decode cX12_findCircuit 51 = .ok (.aload_n 0, 1) := by decide +kernel
theorem d_X12_findCircuit_52 : decode cX12_findCircuit 52 = .ok (.getfield 97, 3) := by decide +kernel
theorem d_X12_findCircuit_55 : decode cX12_findCircuit 55 = .ok (.if_icmp .ge 35, 3) := by decide +kernel
theorem d_X12_findCircuit_58 : decode cX12_findCircuit 58 = .ok (.aload_n 0, 1) := by decide +kernel
theorem d_X12_findCircuit_59 : decode cX12_findCircuit 59 = .ok (.getfield 68, 3) := by decide +kernel
theorem d_X12_findCircuit_62 : decode cX12_findCircuit 62 = .ok (.iload_n 3, 1) := by decide +kernel
theorem d_X12_findCircuit_63 : decode cX12_findCircuit 63 = .ok (.baload, 1) := by decide +kernel
theorem d_X12_findCircuit_64 : decode cX12_findCircuit 64 = .ok (.ifCond .ne 20, 3) := by decide +kernel
theorem d_X12_findCircuit_67 : decode cX12_findCircuit 67 = .ok (.aload_n 0, 1) := by decide +kernel
theorem d_X12_findCircuit_68 : decode cX12_findCircuit 68 = .ok (.getfield 30, 3) := by decide +kernel
theorem d_X12_findCircuit_71 : decode cX12_findCircuit 71 = .ok (.iload_n 3, 1) := by decide +kernel
theorem d_X12_findCircuit_72 : decode cX12_findCircuit 72 = .ok (.iaload, 1) := by decide +kernel
theorem d_X12_findCircuit_73 : decode cX12_findCircuit 73 = .ok (.aload_n 0, 1) := by decide +kernel
theorem d_X12_findCircuit_74 : decode cX12_findCircuit 74 = .ok (.getfield 71, 3) := by decide +kernel
theorem d_X12_findCircuit_77 : decode cX12_findCircuit 77 = .ok (.iload_n 1, 1) := by decide +kernel
theorem d_X12_findCircuit_78 : decode cX12_findCircuit 78 = .ok (.iconst 1, 1) := by decide +kernel
theorem d_X12_findCircuit_79 : decode cX12_findCircuit 79 = .ok (.isub, 1) := by decide +kernel
theorem d_X12_findCircuit_80 : decode cX12_findCircuit 80 = .ok (.iaload, 1) := by decide +kernel
theorem d_X12_findCircuit_81 : decode cX12_findCircuit 81 = .ok (.if_icmp .eq 9, 3) := by decide +kernel
theorem d_X12_findCircuit_84 : decode cX12_findCircuit 84 = .ok (.iinc 3 1, 3) := by decide +kernel
theorem d_X12_findCircuit_87 : decode cX12_findCircuit 87 = .ok (.goto (-37), 3) := by decide +kernel
theorem d_X12_findCircuit_90 : decode cX12_findCircuit 90 = .ok (.iload_n 3, 1) := by decide +kernel
theorem d_X12_findCircuit_91 : decode cX12_findCircuit 91 = .ok (.aload_n 0, 1) := by decide +kernel
theorem d_X12_findCircuit_92 : decode cX12_findCircuit 92 = .ok (.getfield 97, 3) := by decide +kernel
theorem d_X12_findCircuit_95 : decode cX12_findCircuit 95 = .ok (.if_icmp .ge 35, 3) := by decide +kernel
theorem d_X12_findCircuit_98 : decode cX12_findCircuit 98 = .ok (.aload_n 0, 1) := by decide +kernel
theorem d_X12_findCircuit_99 : decode cX12_findCircuit 99 = .ok (.getfield 68, 3) := by decide +kernel
theorem d_X12_findCircuit_102 : decode cX12_findCircuit 102 = .ok (.iload_n 3, 1) := by decide +kernel
theorem d_X12_findCircuit_103 : decode cX12_findCircuit 103 = .ok (.iconst 1, 1) := by decide +kernel
theorem d_X12_findCircuit_104 : decode cX12_findCircuit 104 = .ok (.bastore, 1) := by decide +kernel
theorem d_X12_findCircuit_105 : decode cX12_findCircuit 105 = .ok (.aload_n 0, 1) := by decide +kernel
theorem d_X12_findCircuit_106 : decode cX12_findCircuit 106 = .ok (.getfield 71, 3) := by decide +kernel
theorem d_X12_findCircuit_109 : decode cX12_findCircuit 109 = .ok (.iload_n 1, 1) := by decide +kernel
theorem d_X12_findCircuit_110 : decode cX12_findCircuit 110 = .ok (.aload_n 0, 1) := by decide +kernel
theorem d_X12_findCircuit_111 : decode cX12_findCircuit 111 = .ok (.getfield 33, 3) := by decide +kernel
theorem d_X12_findCircuit_114 : decode cX12_findCircuit 114 = .ok (.iload_n 3, 1) := by decide +kernel
theorem d_X12_findCircuit_115 : decode cX12_findCircuit 115 = .ok (.iaload, 1) := by decide +kernel
theorem d_X12_findCircuit_116 : decode cX12_findCircuit 116 = .ok (.iastore, 1) := by decide +kernel
theorem d_X12_findCircuit_117 : decode cX12_findCircuit 117 = .ok (.aload_n 0, 1) := by decide +kernel
theorem d_X12_findCircuit_118 : decode cX12_findCircuit 118 = .ok (.getfield 74, 3) := by decide +kernel
theorem d_X12_findCircuit_121 : decode cX12_findCircuit 121 = .ok (.iload_n 1, 1) := by decide +kernel
theorem d_X12_findCircuit_122 : decode cX12_findCircuit 122 = .ok (.iload_n 3, 1) := by decide +kernel
theorem d_X12_findCircuit_123 : decode cX12_findCircuit 123 = .ok (.iastore, 1) := by decide +kernel
theorem d_X12_findCircuit_124 : decode cX12_findCircuit 124 = .ok (.iinc 1 1, 3) := by decide +kernel
theorem d_X12_findCircuit_127 : decode cX12_findCircuit 127 = .ok (.goto 34, 3) := by decide +kernel
theorem d_X12_findCircuit_130 : decode cX12_findCircuit 130 = .ok (.iinc 1 (-1), 3) := by decide +kernel
theorem d_X12_findCircuit_133 : decode cX12_findCircuit 133 = .ok (.iload_n 2, 1) := by decide +kernel
theorem d_X12_findCircuit_134 : decode cX12_findCircuit 134 = .ok (.iload_n 1, 1) := by decide +kernel
theorem d_X12_findCircuit_135 : decode cX12_findCircuit 135 = .ok (.ifCond .le 7, 3) := by decide +kernel
theorem d_X12_findCircuit_138 : decode cX12_findCircuit 138 = .ok (.iconst 1, 1) := by decide +kernel
theorem d_X12_findCircuit_139 : decode cX12_findCircuit 139 = .ok (.goto 4, 3) := by decide +kernel
theorem d_X12_findCircuit_142 : decode cX12_findCircuit 142 = .ok (.iconst 0, 1) := by decide +kernel
theorem d_X12_findCircuit_143 : decode cX12_findCircuit 143 = .ok (.isub, 1) := by decide +kernel
theorem d_X12_findCircuit_144 : decode cX12_findCircuit 144 = .ok (.istore_n 2, 1) := by decide +kernel
theorem d_X12_findCircuit_145 : decode cX12_findCircuit 145 = .ok (.iload_n 1, 1) := by decide +kernel
theorem d_X12_findCircuit_146 : decode cX12_findCircuit 146 = .ok (.ifCond .le 15, 3) := by decide +kernel
theorem d_X12_findCircuit_149 : decode cX12_findCircuit 149 = .ok (.aload_n 0, 1) := by decide +kernel
theorem d_X12_findCircuit_150 : decode cX12_findCircuit 150 = .ok (.getfield 77, 3) := by decide +kernel
theorem d_X12_findCircuit_153 : decode cX12_findCircuit 153 = .ok (.iload_n 2, 1) := by decide +kernel
theorem d_X12_findCircuit_154 : decode cX12_findCircuit 154 = .ok (.aload_n 0, 1) := by decide +kernel
theorem d_X12_findCircuit_155 : decode cX12_findCircuit 155 = .ok (.getfield 74, 3) := by decide +kernel
theorem d_X12_findCircuit_158 : decode cX12_findCircuit 158 = .ok (.iload_n 1, 1) := by decide +kernel
theorem d_X12_findCircuit_159 : decode cX12_findCircuit 159 = .ok (.iaload, 1) := by decide +kernel
theorem d_X12_findCircuit_160 : decode cX12_findCircuit 160 = .ok (.iastore, 1) := by decide +kernel
theorem d_X12_findCircuit_161 : decode cX12_findCircuit 161 = .ok (.goto (-117), 3) := by decide +kernel
theorem d_X12_findCircuit_164 : decode cX12_findCircuit 164 = .ok (.iload_n 2, 1) := by decide +kernel
theorem d_X12_findCircuit_165 : decode cX12_findCircuit 165 = .ok (.ifCond .ne 7, 3) := by decide +kernel
theorem d_X12_findCircuit_168 : decode cX12_findCircuit 168 = .ok (.iconst 1, 1) := by decide +kernel
theorem d_X12_findCircuit_169 : decode cX12_findCircuit 169 = .ok (.goto 4, 3) := by decide +kernel
theorem d_X12_findCircuit_172 : decode cX12_findCircuit 172 = .ok (.iconst 0, 1) := by decide +kernel
theorem d_X12_findCircuit_173 : decode cX12_findCircuit 173 = .ok (.ireturn, 1) := by decide +kernel
def f_X12_findCircuit_84 (F : Nat) (kb44 : Int32 → Int32 → sm_M → Option (Int32 × sm_M)) (kb50 : Int32 → Int32 → Int32 → sm_M → Option (Int32 × sm_M)) (x1 : Int32) (x2 : Int32) (x3 : Int32) (M : sm_M) : Option (Int32 × sm_M) := kb50 x1 x2 (x3 + 1) M
set_option maxRecDepth 100000 in
set_option maxHeartbeats 4000000 in
theorem j_X12_findCircuit_84 {sk : List sm_Sh} (hx : sm_ext skM sk) (F : Nat) (kb44 : Int32 → Int32 → sm_M → Option (Int32 × sm_M)) (kb50 : Int32 → Int32 → Int32 → sm_M → Option (Int32 × sm_M)) (hkb44 : ∀ (x1 : Int32) (x2 : Int32) (M : sm_M) (r : Int32 × sm_M), kb44 x1 x2 M = some r → sm_J (md_X12_findCircuit, 0, sk, .inl (some (.int r.1)), r.2) 44 [some (.ref 80), some (.int x1), some (.int x2), none] [] M) (hkb50 : ∀ (x1 : Int32) (x2 : Int32) (x3 : Int32) (M : sm_M) (r : Int32 × sm_M), kb50 x1 x2 x3 M = some r → sm_J (md_X12_findCircuit, 0, sk, .inl (some (.int r.1)), r.2) 50 [some (.ref 80), some (.int x1), some (.int x2), some (.int x3)] [] M) : ∀ (x1 : Int32) (x2 : Int32) (x3 : Int32) (M : sm_M) (r : Int32 × sm_M), f_X12_findCircuit_84 F kb44 kb50 x1 x2 x3 M = some r → sm_J (md_X12_findCircuit, 0, sk, .inl (some (.int r.1)), r.2) 84 [some (.ref 80), some (.int x1), some (.int x2), some (.int x3)] [] M := by
  intro x1 x2 x3  M r h
  unfold f_X12_findCircuit_84 at h
  refine sm_iinc (q := 87) (v := (x3 + 1)) (lt := [some (.ref 80), some (.int x1), some (.int x2), some (.int (x3 + 1))]) d_X12_findCircuit_84 rfl rfl (ii_1 _) (Nat.le_of_ble_eq_true rfl) rfl rfl ?_
  refine sm_goto (t := 50) d_X12_findCircuit_87 rfl ?_
  exact hkb50 x1 x2 (x3 + 1) M _ h
def f_X12_findCircuit_161 (F : Nat) (kb44 : Int32 → Int32 → sm_M → Option (Int32 × sm_M)) (x1 : Int32) (x2 : Int32) (M : sm_M) : Option (Int32 × sm_M) := kb44 x1 x2 M
set_option maxRecDepth 100000 in
set_option maxHeartbeats 4000000 in
theorem j_X12_findCircuit_161 {sk : List sm_Sh} (hx : sm_ext skM sk) (F : Nat) (kb44 : Int32 → Int32 → sm_M → Option (Int32 × sm_M)) (hkb44 : ∀ (x1 : Int32) (x2 : Int32) (M : sm_M) (r : Int32 × sm_M), kb44 x1 x2 M = some r → sm_J (md_X12_findCircuit, 0, sk, .inl (some (.int r.1)), r.2) 44 [some (.ref 80), some (.int x1), some (.int x2), none] [] M) : ∀ (x1 : Int32) (x2 : Int32) (M : sm_M) (r : Int32 × sm_M), f_X12_findCircuit_161 F kb44 x1 x2 M = some r → sm_J (md_X12_findCircuit, 0, sk, .inl (some (.int r.1)), r.2) 161 [some (.ref 80), some (.int x1), some (.int x2), none] [] M := by
  intro x1 x2  M r h
  unfold f_X12_findCircuit_161 at h
  refine sm_goto (t := 44) d_X12_findCircuit_161 rfl ?_
  exact hkb44 x1 x2 M _ h
def f_X12_findCircuit_143 (F : Nat) (kb44 : Int32 → Int32 → sm_M → Option (Int32 × sm_M)) (x1 : Int32) (y0 : Int32) (y1 : Int32) (M : sm_M) : Option (Int32 × sm_M) := if x1 ≤ 0 then (f_X12_findCircuit_161 F kb44 x1 (y0 - y1) M) else (sm_g (sm_ib x1 201) (sm_g (sm_ib (y0 - y1) 200) (f_X12_findCircuit_161 F kb44 x1 (y0 - y1) ((sm_mi M 99 (y0 - y1).toNatClampNeg (M.1 98 x1.toNatClampNeg))))))
set_option maxRecDepth 100000 in
set_option maxHeartbeats 4000000 in
theorem j_X12_findCircuit_143 {sk : List sm_Sh} (hx : sm_ext skM sk) (F : Nat) (kb44 : Int32 → Int32 → sm_M → Option (Int32 × sm_M)) (hkb44 : ∀ (x1 : Int32) (x2 : Int32) (M : sm_M) (r : Int32 × sm_M), kb44 x1 x2 M = some r → sm_J (md_X12_findCircuit, 0, sk, .inl (some (.int r.1)), r.2) 44 [some (.ref 80), some (.int x1), some (.int x2), none] [] M) : ∀ (x1 : Int32) (y0 : Int32) (y1 : Int32) (M : sm_M) (r : Int32 × sm_M), f_X12_findCircuit_143 F kb44 x1 y0 y1 M = some r → sm_J (md_X12_findCircuit, 0, sk, .inl (some (.int r.1)), r.2) 143 [some (.ref 80), some (.int x1), none, none] [.int y1, .int y0] M := by
  intro x1 y0 y1  M r h
  unfold f_X12_findCircuit_143 at h
  refine sm_isub (q := 144) d_X12_findCircuit_143 rfl ?_
  refine sm_istore_n (q := 145) (lt := [some (.ref 80), some (.int x1), some (.int (y0 - y1)), none]) d_X12_findCircuit_144 rfl (Nat.le_of_ble_eq_true rfl) rfl rfl ?_
  refine sm_iload_n (q := 146) d_X12_findCircuit_145 rfl rfl ?_
  refine sm_if_le (q := 149) (t := 161) d_X12_findCircuit_146 rfl rfl (fun c1 => ?_) (fun c1 => ?_)
  · replace h := sm_it c1 h
    exact j_X12_findCircuit_161 hx F kb44 hkb44 x1 (y0 - y1) M _ h
  · replace h := sm_if c1 h
    refine sm_aload_n (q := 150) d_X12_findCircuit_149 rfl rfl ?_
    refine sm_getr (q := 153) d_X12_findCircuit_150 rfl fl_X12_77 (hx sx_80) rfl ?_
    refine sm_iload_n (q := 154) d_X12_findCircuit_153 rfl rfl ?_
    refine sm_aload_n (q := 155) d_X12_findCircuit_154 rfl rfl ?_
    refine sm_getr (q := 158) d_X12_findCircuit_155 rfl fl_X12_74 (hx sx_80) rfl ?_
    refine sm_iload_n (q := 159) d_X12_findCircuit_158 rfl rfl ?_
    obtain ⟨g2, h⟩ := sm_gt h
    refine sm_iaload (q := 160) d_X12_findCircuit_159 rfl (hx sx_98) (sm_ib_of g2) ?_
    obtain ⟨g3, h⟩ := sm_gt h
    refine sm_iastore (q := 161) d_X12_findCircuit_160 rfl (hx sx_99) (sm_ib_of g3) ?_
    exact j_X12_findCircuit_161 hx F kb44 hkb44 x1 (y0 - y1) ((sm_mi M 99 (y0 - y1).toNatClampNeg (M.1 98 x1.toNatClampNeg))) _ h
def f_X12_findCircuit_90 (F : Nat) (kb44 : Int32 → Int32 → sm_M → Option (Int32 × sm_M)) (x1 : Int32) (x2 : Int32) (x3 : Int32) (M : sm_M) : Option (Int32 × sm_M) := if (M.1 80 5) ≤ x3 then (if (x1 + (-1)) ≤ 0 then (f_X12_findCircuit_143 F kb44 (x1 + (-1)) x2 (0 : Int32) M) else (f_X12_findCircuit_143 F kb44 (x1 + (-1)) x2 (1 : Int32) M)) else (sm_g (sm_ib x3 200) (sm_g (sm_ib x3 200) (sm_g (sm_ib x1 201) (sm_g (sm_ib x1 201) (f_X12_findCircuit_161 F kb44 (x1 + 1) x2 ((sm_mi (sm_mi (sm_mi M 96 x3.toNatClampNeg (vp_nar .boolean (1 : Int32))) 97 x1.toNatClampNeg ((sm_mi M 96 x3.toNatClampNeg (vp_nar .boolean (1 : Int32))).1 85 x3.toNatClampNeg)) 98 x1.toNatClampNeg x3)))))))
set_option maxRecDepth 100000 in
set_option maxHeartbeats 4000000 in
theorem j_X12_findCircuit_90 {sk : List sm_Sh} (hx : sm_ext skM sk) (F : Nat) (kb44 : Int32 → Int32 → sm_M → Option (Int32 × sm_M)) (hkb44 : ∀ (x1 : Int32) (x2 : Int32) (M : sm_M) (r : Int32 × sm_M), kb44 x1 x2 M = some r → sm_J (md_X12_findCircuit, 0, sk, .inl (some (.int r.1)), r.2) 44 [some (.ref 80), some (.int x1), some (.int x2), none] [] M) : ∀ (x1 : Int32) (x2 : Int32) (x3 : Int32) (M : sm_M) (r : Int32 × sm_M), f_X12_findCircuit_90 F kb44 x1 x2 x3 M = some r → sm_J (md_X12_findCircuit, 0, sk, .inl (some (.int r.1)), r.2) 90 [some (.ref 80), some (.int x1), some (.int x2), some (.int x3)] [] M := by
  intro x1 x2 x3  M r h
  unfold f_X12_findCircuit_90 at h
  refine sm_iload_n (q := 91) d_X12_findCircuit_90 rfl rfl ?_
  refine sm_aload_n (q := 92) d_X12_findCircuit_91 rfl rfl ?_
  refine sm_geti (q := 95) d_X12_findCircuit_92 rfl fl_X12_97 (hx sx_80) rfl ?_
  refine sm_icmp_ge (q := 98) (t := 130) d_X12_findCircuit_95 rfl rfl (fun c1 => ?_) (fun c1 => ?_)
  · replace h := sm_it c1 h
    refine sm_iinc (q := 133) (v := (x1 + (-1))) (lt := [some (.ref 80), some (.int (x1 + (-1))), some (.int x2), some (.int x3)]) d_X12_findCircuit_130 rfl rfl (ii_m1 _) (Nat.le_of_ble_eq_true rfl) rfl rfl ?_
    refine sm_iload_n (q := 134) d_X12_findCircuit_133 rfl rfl ?_
    refine sm_iload_n (q := 135) d_X12_findCircuit_134 rfl rfl ?_
    refine sm_if_le (q := 138) (t := 142) d_X12_findCircuit_135 rfl rfl (fun c2 => ?_) (fun c2 => ?_)
    · replace h := sm_it c2 h
      refine sm_iconst (q := 143) d_X12_findCircuit_142 rfl ci_0 ?_
      refine sm_fg [2, 3] ?_
      exact j_X12_findCircuit_143 hx F kb44 hkb44 (x1 + (-1)) x2 (0 : Int32) M _ h
    · replace h := sm_if c2 h
      refine sm_iconst (q := 139) d_X12_findCircuit_138 rfl ci_1 ?_
      refine sm_goto (t := 143) d_X12_findCircuit_139 rfl ?_
      refine sm_fg [2, 3] ?_
      exact j_X12_findCircuit_143 hx F kb44 hkb44 (x1 + (-1)) x2 (1 : Int32) M _ h
  · replace h := sm_if c1 h
    refine sm_aload_n (q := 99) d_X12_findCircuit_98 rfl rfl ?_
    refine sm_getr (q := 102) d_X12_findCircuit_99 rfl fl_X12_68 (hx sx_80) rfl ?_
    refine sm_iload_n (q := 103) d_X12_findCircuit_102 rfl rfl ?_
    refine sm_iconst (q := 104) d_X12_findCircuit_103 rfl ci_1 ?_
    obtain ⟨g3, h⟩ := sm_gt h
    refine sm_bastore (q := 105) d_X12_findCircuit_104 rfl (hx sx_96) (sm_ib_of g3) ?_
    refine sm_aload_n (q := 106) d_X12_findCircuit_105 rfl rfl ?_
    refine sm_getr (q := 109) d_X12_findCircuit_106 rfl fl_X12_71 (hx sx_80) rfl ?_
    refine sm_iload_n (q := 110) d_X12_findCircuit_109 rfl rfl ?_
    refine sm_aload_n (q := 111) d_X12_findCircuit_110 rfl rfl ?_
    refine sm_getr (q := 114) d_X12_findCircuit_111 rfl fl_X12_33 (hx sx_80) rfl ?_
    refine sm_iload_n (q := 115) d_X12_findCircuit_114 rfl rfl ?_
    obtain ⟨g4, h⟩ := sm_gt h
    refine sm_iaload (q := 116) d_X12_findCircuit_115 rfl (hx sx_85) (sm_ib_of g4) ?_
    obtain ⟨g5, h⟩ := sm_gt h
    refine sm_iastore (q := 117) d_X12_findCircuit_116 rfl (hx sx_97) (sm_ib_of g5) ?_
    refine sm_aload_n (q := 118) d_X12_findCircuit_117 rfl rfl ?_
    refine sm_getr (q := 121) d_X12_findCircuit_118 rfl fl_X12_74 (hx sx_80) rfl ?_
    refine sm_iload_n (q := 122) d_X12_findCircuit_121 rfl rfl ?_
    refine sm_iload_n (q := 123) d_X12_findCircuit_122 rfl rfl ?_
    obtain ⟨g6, h⟩ := sm_gt h
    refine sm_iastore (q := 124) d_X12_findCircuit_123 rfl (hx sx_98) (sm_ib_of g6) ?_
    refine sm_iinc (q := 127) (v := (x1 + 1)) (lt := [some (.ref 80), some (.int (x1 + 1)), some (.int x2), some (.int x3)]) d_X12_findCircuit_124 rfl rfl (ii_1 _) (Nat.le_of_ble_eq_true rfl) rfl rfl ?_
    refine sm_goto (t := 161) d_X12_findCircuit_127 rfl ?_
    refine sm_fg [3] ?_
    exact j_X12_findCircuit_161 hx F kb44 hkb44 (x1 + 1) x2 ((sm_mi (sm_mi (sm_mi M 96 x3.toNatClampNeg (vp_nar .boolean (1 : Int32))) 97 x1.toNatClampNeg ((sm_mi M 96 x3.toNatClampNeg (vp_nar .boolean (1 : Int32))).1 85 x3.toNatClampNeg)) 98 x1.toNatClampNeg x3)) _ h
def f_X12_findCircuit_50b (F : Nat) (kb44 : Int32 → Int32 → sm_M → Option (Int32 × sm_M)) (kb50 : Int32 → Int32 → Int32 → sm_M → Option (Int32 × sm_M)) (x1 : Int32) (x2 : Int32) (x3 : Int32) (M : sm_M) : Option (Int32 × sm_M) := if (M.1 80 5) ≤ x3 then (f_X12_findCircuit_90 F kb44 x1 x2 x3 M) else (sm_g (sm_ib x3 200) (if (M.1 96 x3.toNatClampNeg) = 0 then (sm_g (sm_ib x3 200) (sm_g (sm_ib (x1 - (1 : Int32)) 201) (if (M.1 84 x3.toNatClampNeg) = (M.1 97 (x1 - (1 : Int32)).toNatClampNeg) then (f_X12_findCircuit_90 F kb44 x1 x2 x3 M) else (f_X12_findCircuit_84 F kb44 kb50 x1 x2 x3 M)))) else (f_X12_findCircuit_84 F kb44 kb50 x1 x2 x3 M)))
set_option maxRecDepth 100000 in
set_option maxHeartbeats 4000000 in
theorem j_X12_findCircuit_50b {sk : List sm_Sh} (hx : sm_ext skM sk) (F : Nat) (kb44 : Int32 → Int32 → sm_M → Option (Int32 × sm_M)) (kb50 : Int32 → Int32 → Int32 → sm_M → Option (Int32 × sm_M)) (hkb44 : ∀ (x1 : Int32) (x2 : Int32) (M : sm_M) (r : Int32 × sm_M), kb44 x1 x2 M = some r → sm_J (md_X12_findCircuit, 0, sk, .inl (some (.int r.1)), r.2) 44 [some (.ref 80), some (.int x1), some (.int x2), none] [] M) (hkb50 : ∀ (x1 : Int32) (x2 : Int32) (x3 : Int32) (M : sm_M) (r : Int32 × sm_M), kb50 x1 x2 x3 M = some r → sm_J (md_X12_findCircuit, 0, sk, .inl (some (.int r.1)), r.2) 50 [some (.ref 80), some (.int x1), some (.int x2), some (.int x3)] [] M) : ∀ (x1 : Int32) (x2 : Int32) (x3 : Int32) (M : sm_M) (r : Int32 × sm_M), f_X12_findCircuit_50b F kb44 kb50 x1 x2 x3 M = some r → sm_J (md_X12_findCircuit, 0, sk, .inl (some (.int r.1)), r.2) 50 [some (.ref 80), some (.int x1), some (.int x2), some (.int x3)] [] M := by
  intro x1 x2 x3  M r h
  unfold f_X12_findCircuit_50b at h
  refine sm_iload_n (q := 51) d_X12_findCircuit_50 rfl rfl ?_
  refine sm_aload_n (q := 52) d_X12_findCircuit_51 rfl rfl ?_
  refine sm_geti (q := 55) d_X12_findCircuit_52 rfl fl_X12_97 (hx sx_80) rfl ?_
  refine sm_icmp_ge (q := 58) (t := 90) d_X12_findCircuit_55 rfl rfl (fun c1 => ?_) (fun c1 => ?_)
  · replace h := sm_it c1 h
    exact j_X12_findCircuit_90 hx F kb44 hkb44 x1 x2 x3 M _ h
  · replace h := sm_if c1 h
    refine sm_aload_n (q := 59) d_X12_findCircuit_58 rfl rfl ?_
    refine sm_getr (q := 62) d_X12_findCircuit_59 rfl fl_X12_68 (hx sx_80) rfl ?_
    refine sm_iload_n (q := 63) d_X12_findCircuit_62 rfl rfl ?_
    obtain ⟨g2, h⟩ := sm_gt h
    refine sm_baload (q := 64) d_X12_findCircuit_63 rfl (hx sx_96) (sm_ib_of g2) ?_
    refine sm_if_ne (q := 67) (t := 84) d_X12_findCircuit_64 rfl rfl (fun c3 => ?_) (fun c3 => ?_)
    · replace h := sm_if c3 h
      exact j_X12_findCircuit_84 hx F kb44 kb50 hkb44 hkb50 x1 x2 x3 M _ h
    · replace h := sm_it c3 h
      refine sm_aload_n (q := 68) d_X12_findCircuit_67 rfl rfl ?_
      refine sm_getr (q := 71) d_X12_findCircuit_68 rfl fl_X12_30 (hx sx_80) rfl ?_
      refine sm_iload_n (q := 72) d_X12_findCircuit_71 rfl rfl ?_
      obtain ⟨g4, h⟩ := sm_gt h
      refine sm_iaload (q := 73) d_X12_findCircuit_72 rfl (hx sx_84) (sm_ib_of g4) ?_
      refine sm_aload_n (q := 74) d_X12_findCircuit_73 rfl rfl ?_
      refine sm_getr (q := 77) d_X12_findCircuit_74 rfl fl_X12_71 (hx sx_80) rfl ?_
      refine sm_iload_n (q := 78) d_X12_findCircuit_77 rfl rfl ?_
      refine sm_iconst (q := 79) d_X12_findCircuit_78 rfl ci_1 ?_
      refine sm_isub (q := 80) d_X12_findCircuit_79 rfl ?_
      obtain ⟨g5, h⟩ := sm_gt h
      refine sm_iaload (q := 81) d_X12_findCircuit_80 rfl (hx sx_97) (sm_ib_of g5) ?_
      refine sm_icmp_eq (q := 84) (t := 90) d_X12_findCircuit_81 rfl rfl (fun c6 => ?_) (fun c6 => ?_)
      · replace h := sm_it c6 h
        exact j_X12_findCircuit_90 hx F kb44 hkb44 x1 x2 x3 M _ h
      · replace h := sm_if c6 h
        exact j_X12_findCircuit_84 hx F kb44 kb50 hkb44 hkb50 x1 x2 x3 M _ h
def f_X12_findCircuit_50 (F : Nat) (kb44 : Int32 → Int32 → sm_M → Option (Int32 × sm_M)) (n : Nat) : Int32 → Int32 → Int32 → sm_M → Option (Int32 × sm_M) := match n with
 | 0 => fun _ _ _ _ => none
 | n + 1 => f_X12_findCircuit_50b F kb44 (f_X12_findCircuit_50 F kb44 n)
theorem j_X12_findCircuit_50 {sk : List sm_Sh} (hx : sm_ext skM sk) (F : Nat) (kb44 : Int32 → Int32 → sm_M → Option (Int32 × sm_M)) (hkb44 : ∀ (x1 : Int32) (x2 : Int32) (M : sm_M) (r : Int32 × sm_M), kb44 x1 x2 M = some r → sm_J (md_X12_findCircuit, 0, sk, .inl (some (.int r.1)), r.2) 44 [some (.ref 80), some (.int x1), some (.int x2), none] [] M) : ∀ (n : Nat) (x1 : Int32) (x2 : Int32) (x3 : Int32) (M : sm_M) (r : Int32 × sm_M), f_X12_findCircuit_50 F kb44 n x1 x2 x3 M = some r → sm_J (md_X12_findCircuit, 0, sk, .inl (some (.int r.1)), r.2) 50 [some (.ref 80), some (.int x1), some (.int x2), some (.int x3)] [] M := by
  intro n
  induction n with
  | zero => intro x1 x2 x3  M r h; exact nomatch (show (none : Option (Int32 × sm_M)) = some r from h)
  | succ n ih => exact j_X12_findCircuit_50b hx F kb44 (f_X12_findCircuit_50 F kb44 n) hkb44 ih
def f_X12_findCircuit_173 (F : Nat) (y0 : Int32) (M : sm_M) : Option (Int32 × sm_M) := sm_g (sm_nar .boolean y0) (some (y0, M))
set_option maxRecDepth 100000 in
set_option maxHeartbeats 4000000 in
theorem j_X12_findCircuit_173 {sk : List sm_Sh} (hx : sm_ext skM sk) (F : Nat) : ∀ (y0 : Int32) (M : sm_M) (r : Int32 × sm_M), f_X12_findCircuit_173 F y0 M = some r → sm_J (md_X12_findCircuit, 0, sk, .inl (some (.int r.1)), r.2) 173 [none, none, none, none] [.int y0] M := by
  intro y0  M r h
  unfold f_X12_findCircuit_173 at h
  obtain ⟨g1, h⟩ := sm_gt h
  obtain rfl := Option.some.inj h
  exact sm_iret d_X12_findCircuit_173 rfl (sm_nar_of g1).1 rfl rfl
def f_X12_findCircuit_44b (F : Nat) (kb44 : Int32 → Int32 → sm_M → Option (Int32 × sm_M)) (x1 : Int32) (x2 : Int32) (M : sm_M) : Option (Int32 × sm_M) := if x1 ≤ 0 then (if x2 = 0 then (f_X12_findCircuit_173 F (1 : Int32) M) else (f_X12_findCircuit_173 F (0 : Int32) M)) else (f_X12_findCircuit_50 F kb44 F x1 x2 (0 : Int32) M)
set_option maxRecDepth 100000 in
set_option maxHeartbeats 4000000 in
theorem j_X12_findCircuit_44b {sk : List sm_Sh} (hx : sm_ext skM sk) (F : Nat) (kb44 : Int32 → Int32 → sm_M → Option (Int32 × sm_M)) (hkb44 : ∀ (x1 : Int32) (x2 : Int32) (M : sm_M) (r : Int32 × sm_M), kb44 x1 x2 M = some r → sm_J (md_X12_findCircuit, 0, sk, .inl (some (.int r.1)), r.2) 44 [some (.ref 80), some (.int x1), some (.int x2), none] [] M) : ∀ (x1 : Int32) (x2 : Int32) (M : sm_M) (r : Int32 × sm_M), f_X12_findCircuit_44b F kb44 x1 x2 M = some r → sm_J (md_X12_findCircuit, 0, sk, .inl (some (.int r.1)), r.2) 44 [some (.ref 80), some (.int x1), some (.int x2), none] [] M := by
  intro x1 x2  M r h
  unfold f_X12_findCircuit_44b at h
  refine sm_iload_n (q := 45) d_X12_findCircuit_44 rfl rfl ?_
  refine sm_if_le (q := 48) (t := 164) d_X12_findCircuit_45 rfl rfl (fun c1 => ?_) (fun c1 => ?_)
  · replace h := sm_it c1 h
    refine sm_iload_n (q := 165) d_X12_findCircuit_164 rfl rfl ?_
    refine sm_if_ne (q := 168) (t := 172) d_X12_findCircuit_165 rfl rfl (fun c2 => ?_) (fun c2 => ?_)
    · replace h := sm_if c2 h
      refine sm_iconst (q := 173) d_X12_findCircuit_172 rfl ci_0 ?_
      refine sm_fg [0, 1, 2] ?_
      exact j_X12_findCircuit_173 hx F (0 : Int32) M _ h
    · replace h := sm_it c2 h
      refine sm_iconst (q := 169) d_X12_findCircuit_168 rfl ci_1 ?_
      refine sm_goto (t := 173) d_X12_findCircuit_169 rfl ?_
      refine sm_fg [0, 1, 2] ?_
      exact j_X12_findCircuit_173 hx F (1 : Int32) M _ h
  · replace h := sm_if c1 h
    refine sm_iconst (q := 49) d_X12_findCircuit_48 rfl ci_0 ?_
    refine sm_istore_n (q := 50) (lt := [some (.ref 80), some (.int x1), some (.int x2), some (.int (0 : Int32))]) d_X12_findCircuit_49 rfl (Nat.le_of_ble_eq_true rfl) rfl rfl ?_
    exact j_X12_findCircuit_50 hx F kb44 hkb44 F x1 x2 (0 : Int32) M _ h
def f_X12_findCircuit_44 (F : Nat) (n : Nat) : Int32 → Int32 → sm_M → Option (Int32 × sm_M) := match n with
 | 0 => fun _ _ _ => none
 | n + 1 => f_X12_findCircuit_44b F (f_X12_findCircuit_44 F n)
theorem j_X12_findCircuit_44 {sk : List sm_Sh} (hx : sm_ext skM sk) (F : Nat) : ∀ (n : Nat) (x1 : Int32) (x2 : Int32) (M : sm_M) (r : Int32 × sm_M), f_X12_findCircuit_44 F n x1 x2 M = some r → sm_J (md_X12_findCircuit, 0, sk, .inl (some (.int r.1)), r.2) 44 [some (.ref 80), some (.int x1), some (.int x2), none] [] M := by
  intro n
  induction n with
  | zero => intro x1 x2  M r h; exact nomatch (show (none : Option (Int32 × sm_M)) = some r from h)
  | succ n ih => exact j_X12_findCircuit_44b hx F (f_X12_findCircuit_44 F n) ih
def f_X12_findCircuit_2b (F : Nat) (kb2 : Int32 → sm_M → Option (Int32 × sm_M)) (x1 : Int32) (M : sm_M) : Option (Int32 × sm_M) := if (M.1 80 5) ≤ x1 then (f_X12_findCircuit_44 F F (1 : Int32) (M.1 80 5) ((sm_mi (sm_mi M 97 (0 : Int32).toNatClampNeg (0 : Int32)) 98 (0 : Int32).toNatClampNeg (-1 : Int32)))) else (sm_g (sm_ib x1 200) (kb2 (x1 + 1) ((sm_mi M 96 x1.toNatClampNeg (vp_nar .boolean (0 : Int32))))))
set_option maxRecDepth 100000 in
set_option maxHeartbeats 4000000 in
theorem j_X12_findCircuit_2b {sk : List sm_Sh} (hx : sm_ext skM sk) (F : Nat) (kb2 : Int32 → sm_M → Option (Int32 × sm_M)) (hkb2 : ∀ (x1 : Int32) (M : sm_M) (r : Int32 × sm_M), kb2 x1 M = some r → sm_J (md_X12_findCircuit, 0, sk, .inl (some (.int r.1)), r.2) 2 [some (.ref 80), some (.int x1), none, none] [] M) : ∀ (x1 : Int32) (M : sm_M) (r : Int32 × sm_M), f_X12_findCircuit_2b F kb2 x1 M = some r → sm_J (md_X12_findCircuit, 0, sk, .inl (some (.int r.1)), r.2) 2 [some (.ref 80), some (.int x1), none, none] [] M := by
  intro x1  M r h
  unfold f_X12_findCircuit_2b at h
  refine sm_iload_n (q := 3) d_X12_findCircuit_2 rfl rfl ?_
  refine sm_aload_n (q := 4) d_X12_findCircuit_3 rfl rfl ?_
  refine sm_geti (q := 7) d_X12_findCircuit_4 rfl fl_X12_97 (hx sx_80) rfl ?_
  refine sm_icmp_ge (q := 10) (t := 23) d_X12_findCircuit_7 rfl rfl (fun c1 => ?_) (fun c1 => ?_)
  · replace h := sm_it c1 h
    refine sm_iconst (q := 24) d_X12_findCircuit_23 rfl ci_1 ?_
    refine sm_istore_n (q := 25) (lt := [some (.ref 80), some (.int (1 : Int32)), none, none]) d_X12_findCircuit_24 rfl (Nat.le_of_ble_eq_true rfl) rfl rfl ?_
    refine sm_aload_n (q := 26) d_X12_findCircuit_25 rfl rfl ?_
    refine sm_geti (q := 29) d_X12_findCircuit_26 rfl fl_X12_97 (hx sx_80) rfl ?_
    refine sm_istore_n (q := 30) (lt := [some (.ref 80), some (.int (1 : Int32)), some (.int (M.1 80 5)), none]) d_X12_findCircuit_29 rfl (Nat.le_of_ble_eq_true rfl) rfl rfl ?_
    refine sm_aload_n (q := 31) d_X12_findCircuit_30 rfl rfl ?_
    refine sm_getr (q := 34) d_X12_findCircuit_31 rfl fl_X12_71 (hx sx_80) rfl ?_
    refine sm_iconst (q := 35) d_X12_findCircuit_34 rfl ci_0 ?_
    refine sm_iconst (q := 36) d_X12_findCircuit_35 rfl ci_0 ?_
    refine sm_iastore (q := 37) d_X12_findCircuit_36 rfl (hx sx_97) (sm_ib_of (by decide)) ?_
    refine sm_aload_n (q := 38) d_X12_findCircuit_37 rfl rfl ?_
    refine sm_getr (q := 41) d_X12_findCircuit_38 rfl fl_X12_74 (hx sx_80) rfl ?_
    refine sm_iconst (q := 42) d_X12_findCircuit_41 rfl ci_0 ?_
    refine sm_iconst (q := 43) d_X12_findCircuit_42 rfl ci_m1 ?_
    refine sm_iastore (q := 44) d_X12_findCircuit_43 rfl (hx sx_98) (sm_ib_of (by decide)) ?_
    exact j_X12_findCircuit_44 hx F F (1 : Int32) (M.1 80 5) ((sm_mi (sm_mi M 97 (0 : Int32).toNatClampNeg (0 : Int32)) 98 (0 : Int32).toNatClampNeg (-1 : Int32))) _ h
  · replace h := sm_if c1 h
    refine sm_aload_n (q := 11) d_X12_findCircuit_10 rfl rfl ?_
    refine sm_getr (q := 14) d_X12_findCircuit_11 rfl fl_X12_68 (hx sx_80) rfl ?_
    refine sm_iload_n (q := 15) d_X12_findCircuit_14 rfl rfl ?_
    refine sm_iconst (q := 16) d_X12_findCircuit_15 rfl ci_0 ?_
    obtain ⟨g2, h⟩ := sm_gt h
    refine sm_bastore (q := 17) d_X12_findCircuit_16 rfl (hx sx_96) (sm_ib_of g2) ?_
    refine sm_iinc (q := 20) (v := (x1 + 1)) (lt := [some (.ref 80), some (.int (x1 + 1)), none, none]) d_X12_findCircuit_17 rfl rfl (ii_1 _) (Nat.le_of_ble_eq_true rfl) rfl rfl ?_
    refine sm_goto (t := 2) d_X12_findCircuit_20 rfl ?_
    exact hkb2 (x1 + 1) ((sm_mi M 96 x1.toNatClampNeg (vp_nar .boolean (0 : Int32)))) _ h
def f_X12_findCircuit_2 (F : Nat) (n : Nat) : Int32 → sm_M → Option (Int32 × sm_M) := match n with
 | 0 => fun _ _ => none
 | n + 1 => f_X12_findCircuit_2b F (f_X12_findCircuit_2 F n)
theorem j_X12_findCircuit_2 {sk : List sm_Sh} (hx : sm_ext skM sk) (F : Nat) : ∀ (n : Nat) (x1 : Int32) (M : sm_M) (r : Int32 × sm_M), f_X12_findCircuit_2 F n x1 M = some r → sm_J (md_X12_findCircuit, 0, sk, .inl (some (.int r.1)), r.2) 2 [some (.ref 80), some (.int x1), none, none] [] M := by
  intro n
  induction n with
  | zero => intro x1  M r h; exact nomatch (show (none : Option (Int32 × sm_M)) = some r from h)
  | succ n ih => exact j_X12_findCircuit_2b hx F (f_X12_findCircuit_2 F n) ih
def f_X12_findCircuit (F : Nat) (M : sm_M) : Option (Int32 × sm_M) := f_X12_findCircuit_2 F F (0 : Int32) M
set_option maxRecDepth 100000 in
set_option maxHeartbeats 4000000 in
theorem j_X12_findCircuit {sk : List sm_Sh} (hx : sm_ext skM sk) (F : Nat) : ∀ (M : sm_M) (r : Int32 × sm_M), f_X12_findCircuit F M = some r → sm_J (md_X12_findCircuit, 0, sk, .inl (some (.int r.1)), r.2) 0 [some (.ref 80), none, none, none] [] M := by
  intro   M r h
  unfold f_X12_findCircuit at h
  refine sm_iconst (q := 1) d_X12_findCircuit_0 rfl ci_0 ?_
  refine sm_istore_n (q := 2) (lt := [some (.ref 80), some (.int (0 : Int32)), none, none]) d_X12_findCircuit_1 rfl (Nat.le_of_ble_eq_true rfl) rfl rfl ?_
  exact j_X12_findCircuit_2 hx F F (0 : Int32) M _ h
theorem c_X12_findCircuit {sk : List sm_Sh} (hx : sm_ext skM sk) (F : Nat) (M : sm_M) (r : Int32 × sm_M) (h : f_X12_findCircuit F M = some r) : sm_Ct yX12_findCircuit md_X12_findCircuit 0 sk [.ref 80] M (.inl (some (.int r.1))) r.2 := sm_enter 3 pn_X12 rfl (Nat.le_of_ble_eq_true rfl) rfl (j_X12_findCircuit hx F M r h)
/-! UniversalCyclesModel.minor(II)J -/
theorem d_X12_minor_0 : decode cX12_minor 0 = .ok (.iload_n 1, 1) := by decide +kernel
theorem d_X12_minor_1 : decode cX12_minor 1 = .ok (.aload_n 0, 1) := by decide +kernel
theorem d_X12_minor_2 : decode cX12_minor 2 = .ok (.getfield 100, 3) := by decide +kernel
theorem d_X12_minor_5 : decode cX12_minor 5 = .ok (.if_icmp .ne 5, 3) := by decide +kernel
theorem d_X12_minor_8 : decode cX12_minor 8 = .ok (.lconst 1, 1) := by decide +kernel
theorem d_X12_minor_9 : decode cX12_minor 9 = .ok (.lreturn, 1) := by decide +kernel
theorem d_X12_minor_10 : decode cX12_minor 10 = .ok (.lconst 0, 1) := by decide +kernel
theorem d_X12_minor_11 : decode cX12_minor 11 = .ok (.lstore_n 3, 1) := by decide +kernel
theorem d_X12_minor_12 : decode cX12_minor 12 = .ok (.iconst 1, 1) := by decide +kernel
theorem d_X12_minor_13 : decode cX12_minor 13 = .ok (.istore 5, 2) := by decide +kernel
theorem d_X12_minor_15 : decode cX12_minor 15 = .ok (.iconst 1, 1) := by decide +kernel
theorem d_X12_minor_16 : decode cX12_minor 16 = .ok (.istore 6, 2) := by decide +kernel
theorem d_X12_minor_18 : decode cX12_minor 18 = .ok (.iload 6, 2) := by decide +kernel
theorem d_X12_minor_20 : decode cX12_minor 20 = .ok (.aload_n 0, 1) := by decide +kernel
theorem d_X12_minor_21 : decode cX12_minor 21 = .ok (.getfield 100, 3) := by decide +kernel
theorem d_X12_minor_24 : decode cX12_minor 24 = .ok (.if_icmp .ge 77, 3) := by decide +kernel
theorem d_X12_minor_27 : decode cX12_minor 27 = .ok (.iload_n 2, 1) := by decide +kernel
theorem d_X12_minor_28 : decode cX12_minor 28 = .ok (.iload 6, 2) := by decide +kernel
theorem d_X12_minor_30 : decode cX12_minor 30 = .ok (.ishr, 1) := by decide +kernel
theorem d_X12_minor_31 : decode cX12_minor 31 = .ok (.iconst 1, 1) := by decide +kernel
theorem d_X12_minor_32 : decode cX12_minor 32 = .ok (.iand, 1) := by decide +kernel
theorem d_X12_minor_33 : decode cX12_minor 33 = .ok (.ifCond .ne 62, 3) := by decide +kernel
theorem d_X12_minor_36 : decode cX12_minor 36 = .ok (.lload_n 3, 1) := by decide +kernel
theorem d_X12_minor_37 : decode cX12_minor 37 = .ok (.aload_n 0, 1) := by decide +kernel
theorem d_X12_minor_38 : decode cX12_minor 38 = .ok (.getfield 80, 3) := by decide +kernel
theorem d_X12_minor_41 : decode cX12_minor 41 = .ok (.bipush 8, 2) := by decide +kernel
theorem d_X12_minor_43 : decode cX12_minor 43 = .ok (.iload_n 1, 1) := by decide +kernel
theorem d_X12_minor_44 : decode cX12_minor 44 = .ok (.imul, 1) := by decide +kernel
theorem d_X12_minor_45 : decode cX12_minor 45 = .ok (.iload 6, 2) := by decide +kernel
theorem d_X12_minor_47 : decode cX12_minor 47 = .ok (.iadd, 1) := by decide +kernel
theorem d_X12_minor_48 : decode cX12_minor 48 = .ok (.laload, 1) := by decide +kernel
theorem d_X12_minor_49 : decode cX12_minor 49 = .ok (.lconst 0, 1) := by decide +kernel
theorem d_X12_minor_50 : decode cX12_minor 50 = .ok (.lcmp, 1) := by decide +kernel
theorem d_X12_minor_51 : decode cX12_minor 51 = .ok (.ifCond .ne 7, 3) := by decide +kernel
theorem d_X12_minor_54 : decode cX12_minor 54 = .ok (.lconst 0, 1) := by decide +kernel
theorem d_X12_minor_55 : decode cX12_minor 55 = .ok (.goto 33, 3) := by decide +kernel
theorem d_X12_minor_58 : decode cX12_minor 58 = .ok (.iload 5, 2) := by decide +kernel
theorem d_X12_minor_60 : decode cX12_minor 60 = .ok (.i2l, 1) := by decide +kernel
theorem d_X12_minor_61 : decode cX12_minor 61 = .ok (.aload_n 0, 1) := by decide +kernel
theorem d_X12_minor_62 : decode cX12_minor 62 = .ok (.getfield 80, 3) := by decide +kernel
theorem d_X12_minor_65 : decode cX12_minor 65 = .ok (.bipush 8, 2) := by decide +kernel
theorem d_X12_minor_67 : decode cX12_minor 67 = .ok (.iload_n 1, 1) := by decide +kernel
theorem d_X12_minor_68 : decode cX12_minor 68 = .ok (.imul, 1) := by decide +kernel
theorem d_X12_minor_69 : decode cX12_minor 69 = .ok (.iload 6, 2) := by decide +kernel
theorem d_X12_minor_71 : decode cX12_minor 71 = .ok (.iadd, 1) := by decide +kernel
theorem d_X12_minor_72 : decode cX12_minor 72 = .ok (.laload, 1) := by decide +kernel
theorem d_X12_minor_73 : decode cX12_minor 73 = .ok (.lmul, 1) := by decide +kernel
theorem d_X12_minor_74 : decode cX12_minor 74 = .ok (.aload_n 0, 1) := by decide +kernel
theorem d_X12_minor_75 : decode cX12_minor 75 = .ok (.iload_n 1, 1) := by decide +kernel
theorem d_X12_minor_76 : decode cX12_minor 76 = .ok (.iconst 1, 1) := by decide +kernel
theorem d_X12_minor_77 : decode cX12_minor 77 = .ok (.iadd, 1) := by decide +kernel
theorem d_X12_minor_78 : decode cX12_minor 78 = .ok (.iload_n 2, 1) := by decide +kernel
theorem d_X12_minor_79 : decode cX12_minor 79 = .ok (.iconst 1, 1) := by decide +kernel
theorem d_X12_minor_80 : decode cX12_minor 80 = .ok (.iload 6, 2) := by decide +kernel
theorem d_X12_minor_82 : decode cX12_minor 82 = .ok (.ishl, 1) := by decide +kernel
theorem d_X12_minor_83 : decode cX12_minor 83 = .ok (.ior, 1) := by decide +kernel
theorem d_X12_minor_84 : decode cX12_minor 84 = .ok (.invokevirtual 213, 3) := by decide +kernel
theorem d_X12_minor_87 : decode cX12_minor 87 = .ok (.lmul, 1) := by decide +kernel
theorem d_X12_minor_88 : decode cX12_minor 88 = .ok (.ladd, 1) := by decide +kernel
theorem d_X12_minor_89 : decode cX12_minor 89 = .ok (.lstore_n 3, 1) := by decide +kernel
theorem d_X12_minor_90 : decode cX12_minor 90 = .ok (.iload 5, 2) := by decide +kernel
theorem d_X12_minor_92 : decode cX12_minor 92 = .ok (.ineg, 1) := by decide +kernel
theorem d_X12_minor_93 : decode cX12_minor 93 = .ok (.istore 5, 2) := by decide +kernel
theorem d_X12_minor_95 : decode cX12_minor 95 = .ok (.iinc 6 1, 3) := by decide +kernel
theorem d_X12_minor_98 : decode cX12_minor 98 = .ok (.goto (-80), 3) := by decide +kernel
theorem d_X12_minor_101 : decode cX12_minor 101 = .ok (.lload_n 3, 1) := by decide +kernel
theorem d_X12_minor_102 : decode cX12_minor 102 = .ok (.lreturn, 1) := by decide +kernel
def f_X12_minor_95 (F : Nat) (rec : Int32 → Int32 → sm_M → Option (Int64)) (kb18 : Int32 → Int32 → Int64 → Int32 → Int32 → sm_M → Option (Int64)) (x1 : Int32) (x2 : Int32) (x3 : Int64) (x5 : Int32) (x6 : Int32) (M : sm_M) : Option (Int64) := kb18 x1 x2 x3 x5 (x6 + 1) M
set_option maxRecDepth 100000 in
set_option maxHeartbeats 4000000 in
theorem j_X12_minor_95 {sk : List sm_Sh} (hx : sm_ext skM sk) (F : Nat) (d0 : Nat) (rec : Int32 → Int32 → sm_M → Option (Int64)) (hrec : ∀ (x1 : Int32) (x2 : Int32) (M : sm_M) (r : Int64), rec x1 x2 M = some r → sm_Ct yX12_minor md_X12_minor d0 sk [.ref 80, .int x1, .int x2] M (.inl (some (.long r))) M) (kb18 : Int32 → Int32 → Int64 → Int32 → Int32 → sm_M → Option (Int64)) (hkb18 : ∀ (x1 : Int32) (x2 : Int32) (x3 : Int64) (x5 : Int32) (x6 : Int32) (M : sm_M) (r : Int64), kb18 x1 x2 x3 x5 x6 M = some r → sm_J (md_X12_minor, (d0 + 1), sk, .inl (some (.long r)), M) 18 [some (.ref 80), some (.int x1), some (.int x2), some (.long x3), none, some (.int x5), some (.int x6)] [] M) : ∀ (x1 : Int32) (x2 : Int32) (x3 : Int64) (x5 : Int32) (x6 : Int32) (M : sm_M) (r : Int64), f_X12_minor_95 F rec kb18 x1 x2 x3 x5 x6 M = some r → sm_J (md_X12_minor, (d0 + 1), sk, .inl (some (.long r)), M) 95 [some (.ref 80), some (.int x1), some (.int x2), some (.long x3), none, some (.int x5), some (.int x6)] [] M := by
  intro x1 x2 x3 x5 x6  M r h
  unfold f_X12_minor_95 at h
  refine sm_iinc (q := 98) (v := (x6 + 1)) (lt := [some (.ref 80), some (.int x1), some (.int x2), some (.long x3), none, some (.int x5), some (.int (x6 + 1))]) d_X12_minor_95 rfl rfl (ii_1 _) (Nat.le_of_ble_eq_true rfl) rfl rfl ?_
  refine sm_goto (t := 18) d_X12_minor_98 rfl ?_
  exact hkb18 x1 x2 x3 x5 (x6 + 1) M _ h
def f_X12_minor_88 (F : Nat) (rec : Int32 → Int32 → sm_M → Option (Int64)) (kb18 : Int32 → Int32 → Int64 → Int32 → Int32 → sm_M → Option (Int64)) (x1 : Int32) (x2 : Int32) (x5 : Int32) (x6 : Int32) (y0 : Int64) (y1 : Int64) (M : sm_M) : Option (Int64) := f_X12_minor_95 F rec kb18 x1 x2 (y0 + y1) (-x5) x6 M
set_option maxRecDepth 100000 in
set_option maxHeartbeats 4000000 in
theorem j_X12_minor_88 {sk : List sm_Sh} (hx : sm_ext skM sk) (F : Nat) (d0 : Nat) (rec : Int32 → Int32 → sm_M → Option (Int64)) (hrec : ∀ (x1 : Int32) (x2 : Int32) (M : sm_M) (r : Int64), rec x1 x2 M = some r → sm_Ct yX12_minor md_X12_minor d0 sk [.ref 80, .int x1, .int x2] M (.inl (some (.long r))) M) (kb18 : Int32 → Int32 → Int64 → Int32 → Int32 → sm_M → Option (Int64)) (hkb18 : ∀ (x1 : Int32) (x2 : Int32) (x3 : Int64) (x5 : Int32) (x6 : Int32) (M : sm_M) (r : Int64), kb18 x1 x2 x3 x5 x6 M = some r → sm_J (md_X12_minor, (d0 + 1), sk, .inl (some (.long r)), M) 18 [some (.ref 80), some (.int x1), some (.int x2), some (.long x3), none, some (.int x5), some (.int x6)] [] M) : ∀ (x1 : Int32) (x2 : Int32) (x5 : Int32) (x6 : Int32) (y0 : Int64) (y1 : Int64) (M : sm_M) (r : Int64), f_X12_minor_88 F rec kb18 x1 x2 x5 x6 y0 y1 M = some r → sm_J (md_X12_minor, (d0 + 1), sk, .inl (some (.long r)), M) 88 [some (.ref 80), some (.int x1), some (.int x2), none, none, some (.int x5), some (.int x6)] [.long y1, .long y0] M := by
  intro x1 x2 x5 x6 y0 y1  M r h
  unfold f_X12_minor_88 at h
  refine sm_ladd (q := 89) d_X12_minor_88 rfl ?_
  refine sm_lstore_n (q := 90) (lt := [some (.ref 80), some (.int x1), some (.int x2), some (.long (y0 + y1)), none, some (.int x5), some (.int x6)]) d_X12_minor_89 rfl (Nat.le_of_ble_eq_true rfl) rfl rfl ?_
  refine sm_iload (q := 92) d_X12_minor_90 rfl rfl ?_
  refine sm_ineg (q := 93) d_X12_minor_92 rfl ?_
  refine sm_istore (q := 95) (lt := [some (.ref 80), some (.int x1), some (.int x2), some (.long (y0 + y1)), none, some (.int (-x5)), some (.int x6)]) d_X12_minor_93 rfl (Nat.le_of_ble_eq_true rfl) rfl rfl ?_
  exact j_X12_minor_95 hx F d0 rec hrec kb18 hkb18 x1 x2 (y0 + y1) (-x5) x6 M _ h
def f_X12_minor_18b (F : Nat) (rec : Int32 → Int32 → sm_M → Option (Int64)) (kb18 : Int32 → Int32 → Int64 → Int32 → Int32 → sm_M → Option (Int64)) (x1 : Int32) (x2 : Int32) (x3 : Int64) (x5 : Int32) (x6 : Int32) (M : sm_M) : Option (Int64) := if (M.1 80 7) ≤ x6 then (some x3) else (if ((x2 >>> (x6 &&& 31)) &&& (1 : Int32)) = 0 then (sm_g (sm_ib (((8 : Int32) * x1) + x6) 64) (if (lg_cmp (M.2 100 (((8 : Int32) * x1) + x6).toNatClampNeg) (0 : Int64)) = 0 then (f_X12_minor_88 F rec kb18 x1 x2 x5 x6 x3 (0 : Int64) M) else (sm_g (sm_ib (((8 : Int32) * x1) + x6) 64) ((rec (x1 + (1 : Int32)) (x2 ||| ((1 : Int32) <<< (x6 &&& 31))) M).bind fun q6 => f_X12_minor_88 F rec kb18 x1 x2 x5 x6 x3 ((x5.toInt64 * (M.2 100 (((8 : Int32) * x1) + x6).toNatClampNeg)) * q6) M)))) else (f_X12_minor_95 F rec kb18 x1 x2 x3 x5 x6 M))
set_option maxRecDepth 100000 in
set_option maxHeartbeats 4000000 in
theorem j_X12_minor_18b {sk : List sm_Sh} (hx : sm_ext skM sk) (F : Nat) (d0 : Nat) (rec : Int32 → Int32 → sm_M → Option (Int64)) (hrec : ∀ (x1 : Int32) (x2 : Int32) (M : sm_M) (r : Int64), rec x1 x2 M = some r → sm_Ct yX12_minor md_X12_minor d0 sk [.ref 80, .int x1, .int x2] M (.inl (some (.long r))) M) (kb18 : Int32 → Int32 → Int64 → Int32 → Int32 → sm_M → Option (Int64)) (hkb18 : ∀ (x1 : Int32) (x2 : Int32) (x3 : Int64) (x5 : Int32) (x6 : Int32) (M : sm_M) (r : Int64), kb18 x1 x2 x3 x5 x6 M = some r → sm_J (md_X12_minor, (d0 + 1), sk, .inl (some (.long r)), M) 18 [some (.ref 80), some (.int x1), some (.int x2), some (.long x3), none, some (.int x5), some (.int x6)] [] M) : ∀ (x1 : Int32) (x2 : Int32) (x3 : Int64) (x5 : Int32) (x6 : Int32) (M : sm_M) (r : Int64), f_X12_minor_18b F rec kb18 x1 x2 x3 x5 x6 M = some r → sm_J (md_X12_minor, (d0 + 1), sk, .inl (some (.long r)), M) 18 [some (.ref 80), some (.int x1), some (.int x2), some (.long x3), none, some (.int x5), some (.int x6)] [] M := by
  intro x1 x2 x3 x5 x6  M r h
  unfold f_X12_minor_18b at h
  refine sm_iload (q := 20) d_X12_minor_18 rfl rfl ?_
  refine sm_aload_n (q := 21) d_X12_minor_20 rfl rfl ?_
  refine sm_geti (q := 24) d_X12_minor_21 rfl fl_X12_100 (hx sx_80) rfl ?_
  refine sm_icmp_ge (q := 27) (t := 101) d_X12_minor_24 rfl rfl (fun c1 => ?_) (fun c1 => ?_)
  · replace h := sm_it c1 h
    refine sm_lload_n (q := 102) d_X12_minor_101 rfl rfl ?_
    obtain rfl := Option.some.inj h
    exact sm_lret d_X12_minor_102 rfl rfl rfl
  · replace h := sm_if c1 h
    refine sm_iload_n (q := 28) d_X12_minor_27 rfl rfl ?_
    refine sm_iload (q := 30) d_X12_minor_28 rfl rfl ?_
    refine sm_ishr (q := 31) d_X12_minor_30 rfl ?_
    refine sm_iconst (q := 32) d_X12_minor_31 rfl ci_1 ?_
    refine sm_iand (q := 33) d_X12_minor_32 rfl ?_
    refine sm_if_ne (q := 36) (t := 95) d_X12_minor_33 rfl rfl (fun c2 => ?_) (fun c2 => ?_)
    · replace h := sm_if c2 h
      exact j_X12_minor_95 hx F d0 rec hrec kb18 hkb18 x1 x2 x3 x5 x6 M _ h
    · replace h := sm_it c2 h
      refine sm_lload_n (q := 37) d_X12_minor_36 rfl rfl ?_
      refine sm_aload_n (q := 38) d_X12_minor_37 rfl rfl ?_
      refine sm_getr (q := 41) d_X12_minor_38 rfl fl_X12_80 (hx sx_80) rfl ?_
      refine sm_bipush (q := 43) d_X12_minor_41 rfl cb_8 ?_
      refine sm_iload_n (q := 44) d_X12_minor_43 rfl rfl ?_
      refine sm_imul (q := 45) d_X12_minor_44 rfl ?_
      refine sm_iload (q := 47) d_X12_minor_45 rfl rfl ?_
      refine sm_iadd (q := 48) d_X12_minor_47 rfl ?_
      obtain ⟨g3, h⟩ := sm_gt h
      refine sm_laload (q := 49) d_X12_minor_48 rfl (hx sx_100) (sm_ib_of g3) ?_
      refine sm_lconst (q := 50) d_X12_minor_49 rfl cl_0 ?_
      refine sm_lcmp (q := 51) d_X12_minor_50 rfl ?_
      refine sm_if_ne (q := 54) (t := 58) d_X12_minor_51 rfl rfl (fun c4 => ?_) (fun c4 => ?_)
      · replace h := sm_if c4 h
        refine sm_iload (q := 60) d_X12_minor_58 rfl rfl ?_
        refine sm_i2l (q := 61) d_X12_minor_60 rfl ?_
        refine sm_aload_n (q := 62) d_X12_minor_61 rfl rfl ?_
        refine sm_getr (q := 65) d_X12_minor_62 rfl fl_X12_80 (hx sx_80) rfl ?_
        refine sm_bipush (q := 67) d_X12_minor_65 rfl cb_8 ?_
        refine sm_iload_n (q := 68) d_X12_minor_67 rfl rfl ?_
        refine sm_imul (q := 69) d_X12_minor_68 rfl ?_
        refine sm_iload (q := 71) d_X12_minor_69 rfl rfl ?_
        refine sm_iadd (q := 72) d_X12_minor_71 rfl ?_
        obtain ⟨g5, h⟩ := sm_gt h
        refine sm_laload (q := 73) d_X12_minor_72 rfl (hx sx_100) (sm_ib_of g5) ?_
        refine sm_lmul (q := 74) d_X12_minor_73 rfl ?_
        refine sm_aload_n (q := 75) d_X12_minor_74 rfl rfl ?_
        refine sm_iload_n (q := 76) d_X12_minor_75 rfl rfl ?_
        refine sm_iconst (q := 77) d_X12_minor_76 rfl ci_1 ?_
        refine sm_iadd (q := 78) d_X12_minor_77 rfl ?_
        refine sm_iload_n (q := 79) d_X12_minor_78 rfl rfl ?_
        refine sm_iconst (q := 80) d_X12_minor_79 rfl ci_1 ?_
        refine sm_iload (q := 82) d_X12_minor_80 rfl rfl ?_
        refine sm_ishl (q := 83) d_X12_minor_82 rfl ?_
        refine sm_ior (q := 84) d_X12_minor_83 rfl ?_
        obtain ⟨q6, e6, h⟩ := sm_bd h
        refine sm_callV (q := 87) (d' := d0) [.long (x5.toInt64 * (M.2 100 (((8 : Int32) * x1) + x6).toNatClampNeg)), .long x3] [.int (x1 + (1 : Int32)), .int (x2 ||| ((1 : Int32) <<< (x6 &&& 31)))] d_X12_minor_84 rfl lk_X12_213 (hx sx_80) rfl rfl rfl (Nat.le_of_ble_eq_true rfl) (Nat.lt_succ_self _) (hrec (x1 + (1 : Int32)) (x2 ||| ((1 : Int32) <<< (x6 &&& 31))) M _ e6) (st9 := [.long q6, .long (x5.toInt64 * (M.2 100 (((8 : Int32) * x1) + x6).toNatClampNeg)), .long x3]) rfl ?_
        refine sm_lmul (q := 88) d_X12_minor_87 rfl ?_
        refine sm_fg [3] ?_
        exact j_X12_minor_88 hx F d0 rec hrec kb18 hkb18 x1 x2 x5 x6 x3 ((x5.toInt64 * (M.2 100 (((8 : Int32) * x1) + x6).toNatClampNeg)) * q6) M _ h
      · replace h := sm_it c4 h
        refine sm_lconst (q := 55) d_X12_minor_54 rfl cl_0 ?_
        refine sm_goto (t := 88) d_X12_minor_55 rfl ?_
        refine sm_fg [3] ?_
        exact j_X12_minor_88 hx F d0 rec hrec kb18 hkb18 x1 x2 x5 x6 x3 (0 : Int64) M _ h
def f_X12_minor_18 (F : Nat) (rec : Int32 → Int32 → sm_M → Option (Int64)) (n : Nat) : Int32 → Int32 → Int64 → Int32 → Int32 → sm_M → Option (Int64) := match n with
 | 0 => fun _ _ _ _ _ _ => none
 | n + 1 => f_X12_minor_18b F rec (f_X12_minor_18 F rec n)
theorem j_X12_minor_18 {sk : List sm_Sh} (hx : sm_ext skM sk) (F : Nat) (d0 : Nat) (rec : Int32 → Int32 → sm_M → Option (Int64)) (hrec : ∀ (x1 : Int32) (x2 : Int32) (M : sm_M) (r : Int64), rec x1 x2 M = some r → sm_Ct yX12_minor md_X12_minor d0 sk [.ref 80, .int x1, .int x2] M (.inl (some (.long r))) M) : ∀ (n : Nat) (x1 : Int32) (x2 : Int32) (x3 : Int64) (x5 : Int32) (x6 : Int32) (M : sm_M) (r : Int64), f_X12_minor_18 F rec n x1 x2 x3 x5 x6 M = some r → sm_J (md_X12_minor, (d0 + 1), sk, .inl (some (.long r)), M) 18 [some (.ref 80), some (.int x1), some (.int x2), some (.long x3), none, some (.int x5), some (.int x6)] [] M := by
  intro n
  induction n with
  | zero => intro x1 x2 x3 x5 x6  M r h; exact nomatch (show (none : Option (Int64)) = some r from h)
  | succ n ih => exact j_X12_minor_18b hx F d0 rec hrec (f_X12_minor_18 F rec n) ih
def f_X12_minorB (F : Nat) (rec : Int32 → Int32 → sm_M → Option (Int64)) (x1 : Int32) (x2 : Int32) (M : sm_M) : Option (Int64) := if x1 = (M.1 80 7) then (some (1 : Int64)) else (f_X12_minor_18 F rec F x1 x2 (0 : Int64) (1 : Int32) (1 : Int32) M)
set_option maxRecDepth 100000 in
set_option maxHeartbeats 4000000 in
theorem j_X12_minorB {sk : List sm_Sh} (hx : sm_ext skM sk) (F : Nat) (d0 : Nat) (rec : Int32 → Int32 → sm_M → Option (Int64)) (hrec : ∀ (x1 : Int32) (x2 : Int32) (M : sm_M) (r : Int64), rec x1 x2 M = some r → sm_Ct yX12_minor md_X12_minor d0 sk [.ref 80, .int x1, .int x2] M (.inl (some (.long r))) M) : ∀ (x1 : Int32) (x2 : Int32) (M : sm_M) (r : Int64), f_X12_minorB F rec x1 x2 M = some r → sm_J (md_X12_minor, (d0 + 1), sk, .inl (some (.long r)), M) 0 [some (.ref 80), some (.int x1), some (.int x2), none, none, none, none] [] M := by
  intro x1 x2  M r h
  unfold f_X12_minorB at h
  refine sm_iload_n (q := 1) d_X12_minor_0 rfl rfl ?_
  refine sm_aload_n (q := 2) d_X12_minor_1 rfl rfl ?_
  refine sm_geti (q := 5) d_X12_minor_2 rfl fl_X12_100 (hx sx_80) rfl ?_
  refine sm_icmp_ne (q := 8) (t := 10) d_X12_minor_5 rfl rfl (fun c1 => ?_) (fun c1 => ?_)
  · replace h := sm_if c1 h
    refine sm_lconst (q := 11) d_X12_minor_10 rfl cl_0 ?_
    refine sm_lstore_n (q := 12) (lt := [some (.ref 80), some (.int x1), some (.int x2), some (.long (0 : Int64)), none, none, none]) d_X12_minor_11 rfl (Nat.le_of_ble_eq_true rfl) rfl rfl ?_
    refine sm_iconst (q := 13) d_X12_minor_12 rfl ci_1 ?_
    refine sm_istore (q := 15) (lt := [some (.ref 80), some (.int x1), some (.int x2), some (.long (0 : Int64)), none, some (.int (1 : Int32)), none]) d_X12_minor_13 rfl (Nat.le_of_ble_eq_true rfl) rfl rfl ?_
    refine sm_iconst (q := 16) d_X12_minor_15 rfl ci_1 ?_
    refine sm_istore (q := 18) (lt := [some (.ref 80), some (.int x1), some (.int x2), some (.long (0 : Int64)), none, some (.int (1 : Int32)), some (.int (1 : Int32))]) d_X12_minor_16 rfl (Nat.le_of_ble_eq_true rfl) rfl rfl ?_
    exact j_X12_minor_18 hx F d0 rec hrec F x1 x2 (0 : Int64) (1 : Int32) (1 : Int32) M _ h
  · replace h := sm_it c1 h
    refine sm_lconst (q := 9) d_X12_minor_8 rfl cl_1 ?_
    obtain rfl := Option.some.inj h
    exact sm_lret d_X12_minor_9 rfl rfl rfl
def f_X12_minorR (F : Nat) (n : Nat) : Int32 → Int32 → sm_M → Option (Int64) := match n with
  | 0 => fun _ _ _ => none
  | n + 1 => f_X12_minorB F (f_X12_minorR F n)
theorem c_X12_minorR {sk : List sm_Sh} (hx : sm_ext skM sk) (F : Nat) : ∀ (n : Nat) (x1 : Int32) (x2 : Int32) (M : sm_M) (r : Int64), f_X12_minorR F n x1 x2 M = some r → sm_Ct yX12_minor md_X12_minor n sk [.ref 80, .int x1, .int x2] M (.inl (some (.long r))) M := by
  intro n
  induction n with
  | zero => intro x1 x2 M r h; exact nomatch (show (none : Option (Int64)) = some r from h)
  | succ n ih => intro x1 x2 M r h; exact sm_enter 4 pn_X12 rfl (Nat.le_of_ble_eq_true rfl) rfl (j_X12_minorB hx F n (f_X12_minorR F n) ih x1 x2 M r h)
def f_X12_minor (F : Nat) (x1 : Int32) (x2 : Int32) (M : sm_M) : Option (Int64) := f_X12_minorR F 9 x1 x2 M
theorem c_X12_minor {sk : List sm_Sh} (hx : sm_ext skM sk) (F : Nat) (x1 : Int32) (x2 : Int32) (M : sm_M) (r : Int64) (h : f_X12_minor F x1 x2 M = some r) : sm_Ct yX12_minor md_X12_minor 9 sk [.ref 80, .int x1, .int x2] M (.inl (some (.long r))) M := c_X12_minorR hx F 9 x1 x2 M r h
