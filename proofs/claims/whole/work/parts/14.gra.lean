/-! ===== methods, decompiled: 14.gra ===== -/
/-! UniversalCycles$Graph.vertexOf(LUniversalCycles$Family;I)I -/
theorem d_X4_vertexOf_0 : decode cX4_vertexOf 0 = .ok (.aload_n 1, 1) := by decide +kernel
theorem d_X4_vertexOf_1 : decode cX4_vertexOf 1 = .ok (.getfield 50, 3) := by decide +kernel
theorem d_X4_vertexOf_4 : decode cX4_vertexOf 4 = .ok (.iconst 1, 1) := by decide +kernel
theorem d_X4_vertexOf_5 : decode cX4_vertexOf 5 = .ok (.if_icmp .ne 7, 3) := by decide +kernel
theorem d_X4_vertexOf_8 : decode cX4_vertexOf 8 = .ok (.iconst 1, 1) := by decide +kernel
theorem d_X4_vertexOf_9 : decode cX4_vertexOf 9 = .ok (.goto 4, 3) := by decide +kernel
theorem d_X4_vertexOf_12 : decode cX4_vertexOf 12 = .ok (.iconst 0, 1) := by decide +kernel
theorem d_X4_vertexOf_13 : decode cX4_vertexOf 13 = .ok (.istore_n 3, 1) := by decide +kernel
theorem d_X4_vertexOf_14 : decode cX4_vertexOf 14 = .ok (.aload_n 0, 1) := by decide +kernel
theorem d_X4_vertexOf_15 : decode cX4_vertexOf 15 = .ok (.getfield 12, 3) := by decide +kernel
theorem d_X4_vertexOf_18 : decode cX4_vertexOf 18 = .ok (.iload_n 3, 1) := by decide +kernel
theorem d_X4_vertexOf_19 : decode cX4_vertexOf 19 = .ok (.ifCond .eq 16, 3) := by decide +kernel
theorem d_X4_vertexOf_22 : decode cX4_vertexOf 22 = .ok (.iload_n 2, 1) := by decide +kernel
theorem d_X4_vertexOf_23 : decode cX4_vertexOf 23 = .ok (.aload_n 1, 1) := by decide +kernel
theorem d_X4_vertexOf_24 : decode cX4_vertexOf 24 = .ok (.getfield 56, 3) := by decide +kernel
theorem d_X4_vertexOf_27 : decode cX4_vertexOf 27 = .ok (.iconst 1, 1) := by decide +kernel
theorem d_X4_vertexOf_28 : decode cX4_vertexOf 28 = .ok (.isub, 1) := by decide +kernel
theorem d_X4_vertexOf_29 : decode cX4_vertexOf 29 = .ok (.invokestatic 97, 3) := by decide +kernel
theorem d_X4_vertexOf_32 : decode cX4_vertexOf 32 = .ok (.goto 4, 3) := by decide +kernel
theorem d_X4_vertexOf_35 : decode cX4_vertexOf 35 = .ok (.iload_n 2, 1) := by decide +kernel
theorem d_X4_vertexOf_36 : decode cX4_vertexOf 36 = .ok (.invokevirtual 100, 3) := by decide +kernel
theorem d_X4_vertexOf_39 : decode cX4_vertexOf 39 = .ok (.istore 4, 2) := by decide +kernel
theorem d_X4_vertexOf_41 : decode cX4_vertexOf 41 = .ok (.iload 4, 2) := by decide +kernel
theorem d_X4_vertexOf_43 : decode cX4_vertexOf 43 = .ok (.iconst 0, 1) := by decide +kernel
theorem d_X4_vertexOf_44 : decode cX4_vertexOf 44 = .ok (.invokestatic 103, 3) := by decide +kernel
theorem d_X4_vertexOf_47 : decode cX4_vertexOf 47 = .ok (.ireturn, 1) := by decide +kernel
def f_X4_vertexOf_36 (F : Nat) (y1 : Int32) (M : sm_M) : Option (Int32) := (f_X1_indexOf F 6 y1 M).bind fun q1 => some (if q1 < (0 : Int32) then (0 : Int32) else q1)
set_option maxRecDepth 100000 in
set_option maxHeartbeats 4000000 in
theorem j_X4_vertexOf_36 {sk : List sm_Sh} (hx : sm_ext skX sk) (F : Nat) : ∀ (y1 : Int32) (M : sm_M) (r : Int32), f_X4_vertexOf_36 F y1 M = some r → sm_J (md_X4_vertexOf, 2, sk, .inl (some (.int r)), M) 36 [none, none, none, none, none] [.int y1, .ref 6] M := by
  intro y1  M r h
  unfold f_X4_vertexOf_36 at h
  obtain ⟨q1, e1, h⟩ := sm_bd h
  refine sm_callV (q := 39) (d' := 0) [] [.int y1] d_X4_vertexOf_36 rfl lk_X4_100 (hx sx_6) rfl rfl rfl (Nat.le_of_ble_eq_true rfl) (Nat.le_of_ble_eq_true rfl) (c_X1_indexOf hx F 6 ⟨hx sx_6, hx sx_7, hx sx_8⟩ y1 M _ e1) (st9 := [.int q1]) rfl ?_
  refine sm_istore (q := 41) (lt := [none, none, none, none, some (.int q1)]) d_X4_vertexOf_39 rfl (Nat.le_of_ble_eq_true rfl) rfl rfl ?_
  refine sm_iload (q := 43) d_X4_vertexOf_41 rfl rfl ?_
  refine sm_iconst (q := 44) d_X4_vertexOf_43 rfl ci_0 ?_
  refine sm_mmax (q := 47) d_X4_vertexOf_44 rfl lk_X4_103 (Nat.le_of_ble_eq_true rfl) (Nat.le_of_ble_eq_true rfl) ?_
  obtain rfl := Option.some.inj h
  exact sm_iret d_X4_vertexOf_47 rfl rfl rfl rfl
def f_X4_vertexOf_13 (F : Nat) (x2 : Int32) (y0 : Int32) (M : sm_M) : Option (Int32) := if y0 = 0 then (f_X4_vertexOf_36 F x2 M) else ((f_X1_orderPattern F x2 ((M.1 1 2) - (1 : Int32)) M).bind fun q2 => f_X4_vertexOf_36 F q2 M)
set_option maxRecDepth 100000 in
set_option maxHeartbeats 4000000 in
theorem j_X4_vertexOf_13 {sk : List sm_Sh} (hx : sm_ext skX sk) (F : Nat) : ∀ (x2 : Int32) (y0 : Int32) (M : sm_M) (r : Int32), f_X4_vertexOf_13 F x2 y0 M = some r → sm_J (md_X4_vertexOf, 2, sk, .inl (some (.int r)), M) 13 [some (.ref 5), some (.ref 1), some (.int x2), none, none] [.int y0] M := by
  intro x2 y0  M r h
  unfold f_X4_vertexOf_13 at h
  refine sm_istore_n (q := 14) (lt := [some (.ref 5), some (.ref 1), some (.int x2), some (.int y0), none]) d_X4_vertexOf_13 rfl (Nat.le_of_ble_eq_true rfl) rfl rfl ?_
  refine sm_aload_n (q := 15) d_X4_vertexOf_14 rfl rfl ?_
  refine sm_getr (q := 18) d_X4_vertexOf_15 rfl fl_X4_12 (hx sx_5) rfl ?_
  refine sm_iload_n (q := 19) d_X4_vertexOf_18 rfl rfl ?_
  refine sm_if_eq (q := 22) (t := 35) d_X4_vertexOf_19 rfl rfl (fun c1 => ?_) (fun c1 => ?_)
  · replace h := sm_it c1 h
    refine sm_iload_n (q := 36) d_X4_vertexOf_35 rfl rfl ?_
    refine sm_fg [0, 1, 2, 3] ?_
    exact j_X4_vertexOf_36 hx F x2 M _ h
  · replace h := sm_if c1 h
    refine sm_iload_n (q := 23) d_X4_vertexOf_22 rfl rfl ?_
    refine sm_aload_n (q := 24) d_X4_vertexOf_23 rfl rfl ?_
    refine sm_geti (q := 27) d_X4_vertexOf_24 rfl fl_X4_56 (hx sx_1) rfl ?_
    refine sm_iconst (q := 28) d_X4_vertexOf_27 rfl ci_1 ?_
    refine sm_isub (q := 29) d_X4_vertexOf_28 rfl ?_
    obtain ⟨q2, e2, h⟩ := sm_bd h
    refine sm_callS (q := 32) (d' := 1) [.ref 6] [.int x2, .int ((M.1 1 2) - (1 : Int32))] d_X4_vertexOf_29 rfl lk_X4_97 rfl (Nat.le_of_ble_eq_true rfl) (Nat.le_of_ble_eq_true rfl) (c_X1_orderPattern hx F x2 ((M.1 1 2) - (1 : Int32)) M _ e2) (st9 := [.int q2, .ref 6]) rfl ?_
    refine sm_goto (t := 36) d_X4_vertexOf_32 rfl ?_
    refine sm_fg [0, 1, 2, 3] ?_
    exact j_X4_vertexOf_36 hx F q2 M _ h
def f_X4_vertexOf (F : Nat) (x2 : Int32) (M : sm_M) : Option (Int32) := if (M.1 1 1) = (1 : Int32) then (f_X4_vertexOf_13 F x2 (1 : Int32) M) else (f_X4_vertexOf_13 F x2 (0 : Int32) M)
set_option maxRecDepth 100000 in
set_option maxHeartbeats 4000000 in
theorem j_X4_vertexOf {sk : List sm_Sh} (hx : sm_ext skX sk) (F : Nat) : ∀ (x2 : Int32) (M : sm_M) (r : Int32), f_X4_vertexOf F x2 M = some r → sm_J (md_X4_vertexOf, 2, sk, .inl (some (.int r)), M) 0 [some (.ref 5), some (.ref 1), some (.int x2), none, none] [] M := by
  intro x2  M r h
  unfold f_X4_vertexOf at h
  refine sm_aload_n (q := 1) d_X4_vertexOf_0 rfl rfl ?_
  refine sm_geti (q := 4) d_X4_vertexOf_1 rfl fl_X4_50 (hx sx_1) rfl ?_
  refine sm_iconst (q := 5) d_X4_vertexOf_4 rfl ci_1 ?_
  refine sm_icmp_ne (q := 8) (t := 12) d_X4_vertexOf_5 rfl rfl (fun c1 => ?_) (fun c1 => ?_)
  · replace h := sm_if c1 h
    refine sm_iconst (q := 13) d_X4_vertexOf_12 rfl ci_0 ?_
    exact j_X4_vertexOf_13 hx F x2 (0 : Int32) M _ h
  · replace h := sm_it c1 h
    refine sm_iconst (q := 9) d_X4_vertexOf_8 rfl ci_1 ?_
    refine sm_goto (t := 13) d_X4_vertexOf_9 rfl ?_
    exact j_X4_vertexOf_13 hx F x2 (1 : Int32) M _ h
theorem c_X4_vertexOf {sk : List sm_Sh} (hx : sm_ext skX sk) (F : Nat) (x2 : Int32) (M : sm_M) (r : Int32) (h : f_X4_vertexOf F x2 M = some r) : sm_Ct yX4_vertexOf md_X4_vertexOf 2 sk [.ref 5, .ref 1, .int x2] M (.inl (some (.int r))) M := sm_enter 2 pn_X4 rfl (Nat.le_of_ble_eq_true rfl) rfl (j_X4_vertexOf hx F x2 M r h)
/-! UniversalCycles$Fan.group(II)V -/
theorem d_X3_group_0 : decode cX3_group 0 = .ok (.aload_n 0, 1) := by decide +kernel
theorem d_X3_group_1 : decode cX3_group 1 = .ok (.getfield 18, 3) := by decide +kernel
theorem d_X3_group_4 : decode cX3_group 4 = .ok (.iconst 0, 1) := by decide +kernel
theorem d_X3_group_5 : decode cX3_group 5 = .ok (.invokestatic 21, 3) := by decide +kernel
theorem d_X3_group_8 : decode cX3_group 8 = .ok (.iconst 0, 1) := by decide +kernel
theorem d_X3_group_9 : decode cX3_group 9 = .ok (.istore_n 3, 1) := by decide +kernel
theorem d_X3_group_10 : decode cX3_group 10 = .ok (.iload_n 3, 1) := by decide +kernel
theorem d_X3_group_11 : decode cX3_group 11 = .ok (.iload_n 1, 1) := by decide +kernel
theorem d_X3_group_12 : decode cX3_group 12 = .ok (.if_icmp .ge 24, 3) := by decide +kernel
theorem d_X3_group_15 : decode cX3_group 15 = .ok (.aload_n 0, 1) := by decide +kernel
theorem d_X3_group_16 : decode cX3_group 16 = .ok (.getfield 18, 3) := by decide +kernel
theorem d_X3_group_19 : decode cX3_group 19 = .ok (.aload_n 0, 1) := by decide +kernel
theorem d_X3_group_20 : decode cX3_group 20 = .ok (.getfield 9, 3) := by decide +kernel
theorem d_X3_group_23 : decode cX3_group 23 = .ok (.iload_n 3, 1) := by decide +kernel
theorem d_X3_group_24 : decode cX3_group 24 = .ok (.iaload, 1) := by decide +kernel
theorem d_X3_group_25 : decode cX3_group 25 = .ok (.dup2, 1) := by decide +kernel
theorem d_X3_group_26 : decode cX3_group 26 = .ok (.iaload, 1) := by decide +kernel
theorem d_X3_group_27 : decode cX3_group 27 = .ok (.iconst 1, 1) := by decide +kernel
theorem d_X3_group_28 : decode cX3_group 28 = .ok (.iadd, 1) := by decide +kernel
theorem d_X3_group_29 : decode cX3_group 29 = .ok (.iastore, 1) := by decide +kernel
theorem d_X3_group_30 : decode cX3_group 30 = .ok (.iinc 3 1, 3) := by decide +kernel
theorem d_X3_group_33 : decode cX3_group 33 = .ok (.goto (-23), 3) := by decide +kernel
theorem d_X3_group_36 : decode cX3_group 36 = .ok (.iconst 1, 1) := by decide +kernel
theorem d_X3_group_37 : decode cX3_group 37 = .ok (.istore_n 3, 1) := by decide +kernel
theorem d_X3_group_38 : decode cX3_group 38 = .ok (.iload_n 3, 1) := by decide +kernel
theorem d_X3_group_39 : decode cX3_group 39 = .ok (.iload_n 2, 1) := by decide +kernel
theorem d_X3_group_40 : decode cX3_group 40 = .ok (.if_icmp .gt 26, 3) := by decide +kernel
theorem d_X3_group_43 : decode cX3_group 43 = .ok (.aload_n 0, 1) := by decide +kernel
theorem d_X3_group_44 : decode cX3_group 44 = .ok (.getfield 18, 3) := by decide +kernel
theorem d_X3_group_47 : decode cX3_group 47 = .ok (.iload_n 3, 1) := by decide +kernel
theorem d_X3_group_48 : decode cX3_group 48 = .ok (.dup2, 1) := by decide +kernel
theorem d_X3_group_49 : decode cX3_group 49 = .ok (.iaload, 1) := by decide +kernel
theorem d_X3_group_50 : decode cX3_group 50 = .ok (.aload_n 0, 1) := by decide +kernel
theorem d_X3_group_51 : decode cX3_group 51 = .ok (.getfield 18, 3) := by decide +kernel
theorem d_X3_group_54 : decode cX3_group 54 = .ok (.iload_n 3, 1) := by decide +kernel
theorem d_X3_group_55 : decode cX3_group 55 = .ok (.iconst 1, 1) := by decide +kernel
theorem d_X3_group_56 : decode cX3_group 56 = .ok (.isub, 1) := by decide +kernel
theorem d_X3_group_57 : decode cX3_group 57 = .ok (.iaload, 1) := by decide +kernel
theorem d_X3_group_58 : decode cX3_group 58 = .ok (.iadd, 1) := by decide +kernel
theorem d_X3_group_59 : decode cX3_group 59 = .ok (.iastore, 1) := by decide +kernel
theorem d_X3_group_60 : decode cX3_group 60 = .ok (.iinc 3 1, 3) := by decide +kernel
theorem d_X3_group_63 : decode cX3_group 63 = .ok (.goto (-25), 3) := by decide +kernel
theorem d_X3_group_66 : decode cX3_group 66 = .ok (.iload_n 1, 1) := by decide +kernel
theorem d_X3_group_67 : decode cX3_group 67 = .ok (.iconst 1, 1) := by decide +kernel
theorem d_X3_group_68 : decode cX3_group 68 = .ok (.isub, 1) := by decide +kernel
theorem d_X3_group_69 : decode cX3_group 69 = .ok (.istore_n 3, 1) := by decide +kernel
theorem d_X3_group_70 : decode cX3_group 70 = .ok (.iload_n 3, 1) := by decide +kernel
theorem d_X3_group_71 : decode cX3_group 71 = .ok (.ifCond .lt 41, 3) := by decide +kernel
theorem d_X3_group_74 : decode cX3_group 74 = .ok (.aload_n 0, 1) := by decide +kernel
theorem d_X3_group_75 : decode cX3_group 75 = .ok (.getfield 9, 3) := by decide +kernel
theorem d_X3_group_78 : decode cX3_group 78 = .ok (.iload_n 3, 1) := by decide +kernel
theorem d_X3_group_79 : decode cX3_group 79 = .ok (.iaload, 1) := by decide +kernel
theorem d_X3_group_80 : decode cX3_group 80 = .ok (.istore 4, 2) := by decide +kernel
theorem d_X3_group_82 : decode cX3_group 82 = .ok (.aload_n 0, 1) := by decide +kernel
theorem d_X3_group_83 : decode cX3_group 83 = .ok (.getfield 18, 3) := by decide +kernel
theorem d_X3_group_86 : decode cX3_group 86 = .ok (.iload 4, 2) := by decide +kernel
theorem d_X3_group_88 : decode cX3_group 88 = .ok (.dup2, 1) := by decide +kernel
theorem d_X3_group_89 : decode cX3_group 89 = .ok (.iaload, 1) := by decide +kernel
theorem d_X3_group_90 : decode cX3_group 90 = .ok (.iconst 1, 1) := by decide +kernel
theorem d_X3_group_91 : decode cX3_group 91 = .ok (.isub, 1) := by decide +kernel
theorem d_X3_group_92 : decode cX3_group 92 = .ok (.iastore, 1) := by decide +kernel
theorem d_X3_group_93 : decode cX3_group 93 = .ok (.aload_n 0, 1) := by decide +kernel
theorem d_X3_group_94 : decode cX3_group 94 = .ok (.getfield 15, 3) := by decide +kernel
theorem d_X3_group_97 : decode cX3_group 97 = .ok (.aload_n 0, 1) := by decide +kernel
theorem d_X3_group_98 : decode cX3_group 98 = .ok (.getfield 18, 3) := by decide +kernel
theorem d_X3_group_101 : decode cX3_group 101 = .ok (.iload 4, 2) := by decide +kernel
theorem d_X3_group_103 : decode cX3_group 103 = .ok (.iaload, 1) := by decide +kernel
theorem d_X3_group_104 : decode cX3_group 104 = .ok (.iload_n 3, 1) := by decide +kernel
theorem d_X3_group_105 : decode cX3_group 105 = .ok (.iastore, 1) := by decide +kernel
theorem d_X3_group_106 : decode cX3_group 106 = .ok (.iinc 3 (-1), 3) := by decide +kernel
theorem d_X3_group_109 : decode cX3_group 109 = .ok (.goto (-39), 3) := by decide +kernel
theorem d_X3_group_112 : decode cX3_group 112 = .ok (.return_, 1) := by decide +kernel
def f_X3_group_70b (F : Nat) (a0 : Nat) (kb70 : Int32 → sm_M → Option (sm_M)) (x3 : Int32) (M : sm_M) : Option (sm_M) := if x3 < 0 then (some M) else (sm_g (sm_ib x3 200) (sm_g (sm_ib (M.1 (a0 + 1) x3.toNatClampNeg) 201) (sm_g (sm_ib (M.1 (a0 + 1) x3.toNatClampNeg) 201) (sm_g (sm_ib (M.1 (a0 + 1) x3.toNatClampNeg) 201) (sm_g (sm_ib ((sm_mi M (a0 + 3) (M.1 (a0 + 1) x3.toNatClampNeg).toNatClampNeg ((M.1 (a0 + 3) (M.1 (a0 + 1) x3.toNatClampNeg).toNatClampNeg) - (1 : Int32))).1 (a0 + 3) (M.1 (a0 + 1) x3.toNatClampNeg).toNatClampNeg) 200) (kb70 (x3 + (-1)) ((sm_mi (sm_mi M (a0 + 3) (M.1 (a0 + 1) x3.toNatClampNeg).toNatClampNeg ((M.1 (a0 + 3) (M.1 (a0 + 1) x3.toNatClampNeg).toNatClampNeg) - (1 : Int32))) (a0 + 2) ((sm_mi M (a0 + 3) (M.1 (a0 + 1) x3.toNatClampNeg).toNatClampNeg ((M.1 (a0 + 3) (M.1 (a0 + 1) x3.toNatClampNeg).toNatClampNeg) - (1 : Int32))).1 (a0 + 3) (M.1 (a0 + 1) x3.toNatClampNeg).toNatClampNeg).toNatClampNeg x3))))))))
set_option maxRecDepth 100000 in
set_option maxHeartbeats 4000000 in
theorem j_X3_group_70b {sk : List sm_Sh} (hx : sm_ext skX sk) (F : Nat) (a0 : Nat) (ha0 : sm_fan sk a0) (kb70 : Int32 → sm_M → Option (sm_M)) (hkb70 : ∀ (x3 : Int32) (M : sm_M) (r : sm_M), kb70 x3 M = some r → sm_J (md_X3_group, 1, sk, .inl none, r) 70 [some (.ref a0), none, none, some (.int x3), none] [] M) : ∀ (x3 : Int32) (M : sm_M) (r : sm_M), f_X3_group_70b F a0 kb70 x3 M = some r → sm_J (md_X3_group, 1, sk, .inl none, r) 70 [some (.ref a0), none, none, some (.int x3), none] [] M := by
  intro x3  M r h
  unfold f_X3_group_70b at h
  refine sm_iload_n (q := 71) d_X3_group_70 rfl rfl ?_
  refine sm_if_lt (q := 74) (t := 112) d_X3_group_71 rfl rfl (fun c1 => ?_) (fun c1 => ?_)
  · replace h := sm_it c1 h
    obtain rfl := Option.some.inj h
    exact sm_vret d_X3_group_112 rfl rfl rfl
  · replace h := sm_if c1 h
    refine sm_aload_n (q := 75) d_X3_group_74 rfl rfl ?_
    refine sm_getr (q := 78) d_X3_group_75 rfl fl_X3_9 ha0.1 rfl ?_
    refine sm_iload_n (q := 79) d_X3_group_78 rfl rfl ?_
    obtain ⟨g2, h⟩ := sm_gt h
    refine sm_iaload (q := 80) d_X3_group_79 rfl ha0.2.1 (sm_ib_of g2) ?_
    refine sm_istore (q := 82) (lt := [some (.ref a0), none, none, some (.int x3), some (.int (M.1 (a0 + 1) x3.toNatClampNeg))]) d_X3_group_80 rfl (Nat.le_of_ble_eq_true rfl) rfl rfl ?_
    refine sm_aload_n (q := 83) d_X3_group_82 rfl rfl ?_
    refine sm_getr (q := 86) d_X3_group_83 rfl fl_X3_18 ha0.1 rfl ?_
    refine sm_iload (q := 88) d_X3_group_86 rfl rfl ?_
    refine sm_dup2 (q := 89) d_X3_group_88 rfl rfl rfl ?_
    obtain ⟨g3, h⟩ := sm_gt h
    refine sm_iaload (q := 90) d_X3_group_89 rfl ha0.2.2.2 (sm_ib_of g3) ?_
    refine sm_iconst (q := 91) d_X3_group_90 rfl ci_1 ?_
    refine sm_isub (q := 92) d_X3_group_91 rfl ?_
    obtain ⟨g4, h⟩ := sm_gt h
    refine sm_iastore (q := 93) d_X3_group_92 rfl ha0.2.2.2 (sm_ib_of g4) ?_
    refine sm_aload_n (q := 94) d_X3_group_93 rfl rfl ?_
    refine sm_getr (q := 97) d_X3_group_94 rfl fl_X3_15 ha0.1 rfl ?_
    refine sm_aload_n (q := 98) d_X3_group_97 rfl rfl ?_
    refine sm_getr (q := 101) d_X3_group_98 rfl fl_X3_18 ha0.1 rfl ?_
    refine sm_iload (q := 103) d_X3_group_101 rfl rfl ?_
    obtain ⟨g5, h⟩ := sm_gt h
    refine sm_iaload (q := 104) d_X3_group_103 rfl ha0.2.2.2 (sm_ib_of g5) ?_
    refine sm_iload_n (q := 105) d_X3_group_104 rfl rfl ?_
    obtain ⟨g6, h⟩ := sm_gt h
    refine sm_iastore (q := 106) d_X3_group_105 rfl ha0.2.2.1 (sm_ib_of g6) ?_
    refine sm_iinc (q := 109) (v := (x3 + (-1))) (lt := [some (.ref a0), none, none, some (.int (x3 + (-1))), some (.int (M.1 (a0 + 1) x3.toNatClampNeg))]) d_X3_group_106 rfl rfl (ii_m1 _) (Nat.le_of_ble_eq_true rfl) rfl rfl ?_
    refine sm_goto (t := 70) d_X3_group_109 rfl ?_
    refine sm_fg [4] ?_
    exact hkb70 (x3 + (-1)) ((sm_mi (sm_mi M (a0 + 3) (M.1 (a0 + 1) x3.toNatClampNeg).toNatClampNeg ((M.1 (a0 + 3) (M.1 (a0 + 1) x3.toNatClampNeg).toNatClampNeg) - (1 : Int32))) (a0 + 2) ((sm_mi M (a0 + 3) (M.1 (a0 + 1) x3.toNatClampNeg).toNatClampNeg ((M.1 (a0 + 3) (M.1 (a0 + 1) x3.toNatClampNeg).toNatClampNeg) - (1 : Int32))).1 (a0 + 3) (M.1 (a0 + 1) x3.toNatClampNeg).toNatClampNeg).toNatClampNeg x3)) _ h
def f_X3_group_70 (F : Nat) (a0 : Nat) (n : Nat) : Int32 → sm_M → Option (sm_M) := match n with
 | 0 => fun _ _ => none
 | n + 1 => f_X3_group_70b F a0 (f_X3_group_70 F a0 n)
theorem j_X3_group_70 {sk : List sm_Sh} (hx : sm_ext skX sk) (F : Nat) (a0 : Nat) (ha0 : sm_fan sk a0) : ∀ (n : Nat) (x3 : Int32) (M : sm_M) (r : sm_M), f_X3_group_70 F a0 n x3 M = some r → sm_J (md_X3_group, 1, sk, .inl none, r) 70 [some (.ref a0), none, none, some (.int x3), none] [] M := by
  intro n
  induction n with
  | zero => intro x3  M r h; exact nomatch (show (none : Option (sm_M)) = some r from h)
  | succ n ih => exact j_X3_group_70b hx F a0 ha0 (f_X3_group_70 F a0 n) ih
def f_X3_group_38b (F : Nat) (a0 : Nat) (kb38 : Int32 → Int32 → Int32 → sm_M → Option (sm_M)) (x1 : Int32) (x2 : Int32) (x3 : Int32) (M : sm_M) : Option (sm_M) := if x2 < x3 then (f_X3_group_70 F a0 F (x1 - (1 : Int32)) M) else (sm_g (sm_ib x3 201) (sm_g (sm_ib (x3 - (1 : Int32)) 201) (sm_g (sm_ib x3 201) (kb38 x1 x2 (x3 + 1) ((sm_mi M (a0 + 3) x3.toNatClampNeg ((M.1 (a0 + 3) x3.toNatClampNeg) + (M.1 (a0 + 3) (x3 - (1 : Int32)).toNatClampNeg))))))))
set_option maxRecDepth 100000 in
set_option maxHeartbeats 4000000 in
theorem j_X3_group_38b {sk : List sm_Sh} (hx : sm_ext skX sk) (F : Nat) (a0 : Nat) (ha0 : sm_fan sk a0) (kb38 : Int32 → Int32 → Int32 → sm_M → Option (sm_M)) (hkb38 : ∀ (x1 : Int32) (x2 : Int32) (x3 : Int32) (M : sm_M) (r : sm_M), kb38 x1 x2 x3 M = some r → sm_J (md_X3_group, 1, sk, .inl none, r) 38 [some (.ref a0), some (.int x1), some (.int x2), some (.int x3), none] [] M) : ∀ (x1 : Int32) (x2 : Int32) (x3 : Int32) (M : sm_M) (r : sm_M), f_X3_group_38b F a0 kb38 x1 x2 x3 M = some r → sm_J (md_X3_group, 1, sk, .inl none, r) 38 [some (.ref a0), some (.int x1), some (.int x2), some (.int x3), none] [] M := by
  intro x1 x2 x3  M r h
  unfold f_X3_group_38b at h
  refine sm_iload_n (q := 39) d_X3_group_38 rfl rfl ?_
  refine sm_iload_n (q := 40) d_X3_group_39 rfl rfl ?_
  refine sm_icmp_gt (q := 43) (t := 66) d_X3_group_40 rfl rfl (fun c1 => ?_) (fun c1 => ?_)
  · replace h := sm_it c1 h
    refine sm_iload_n (q := 67) d_X3_group_66 rfl rfl ?_
    refine sm_iconst (q := 68) d_X3_group_67 rfl ci_1 ?_
    refine sm_isub (q := 69) d_X3_group_68 rfl ?_
    refine sm_istore_n (q := 70) (lt := [some (.ref a0), some (.int x1), some (.int x2), some (.int (x1 - (1 : Int32))), none]) d_X3_group_69 rfl (Nat.le_of_ble_eq_true rfl) rfl rfl ?_
    refine sm_fg [1, 2] ?_
    exact j_X3_group_70 hx F a0 ha0 F (x1 - (1 : Int32)) M _ h
  · replace h := sm_if c1 h
    refine sm_aload_n (q := 44) d_X3_group_43 rfl rfl ?_
    refine sm_getr (q := 47) d_X3_group_44 rfl fl_X3_18 ha0.1 rfl ?_
    refine sm_iload_n (q := 48) d_X3_group_47 rfl rfl ?_
    refine sm_dup2 (q := 49) d_X3_group_48 rfl rfl rfl ?_
    obtain ⟨g2, h⟩ := sm_gt h
    refine sm_iaload (q := 50) d_X3_group_49 rfl ha0.2.2.2 (sm_ib_of g2) ?_
    refine sm_aload_n (q := 51) d_X3_group_50 rfl rfl ?_
    refine sm_getr (q := 54) d_X3_group_51 rfl fl_X3_18 ha0.1 rfl ?_
    refine sm_iload_n (q := 55) d_X3_group_54 rfl rfl ?_
    refine sm_iconst (q := 56) d_X3_group_55 rfl ci_1 ?_
    refine sm_isub (q := 57) d_X3_group_56 rfl ?_
    obtain ⟨g3, h⟩ := sm_gt h
    refine sm_iaload (q := 58) d_X3_group_57 rfl ha0.2.2.2 (sm_ib_of g3) ?_
    refine sm_iadd (q := 59) d_X3_group_58 rfl ?_
    obtain ⟨g4, h⟩ := sm_gt h
    refine sm_iastore (q := 60) d_X3_group_59 rfl ha0.2.2.2 (sm_ib_of g4) ?_
    refine sm_iinc (q := 63) (v := (x3 + 1)) (lt := [some (.ref a0), some (.int x1), some (.int x2), some (.int (x3 + 1)), none]) d_X3_group_60 rfl rfl (ii_1 _) (Nat.le_of_ble_eq_true rfl) rfl rfl ?_
    refine sm_goto (t := 38) d_X3_group_63 rfl ?_
    exact hkb38 x1 x2 (x3 + 1) ((sm_mi M (a0 + 3) x3.toNatClampNeg ((M.1 (a0 + 3) x3.toNatClampNeg) + (M.1 (a0 + 3) (x3 - (1 : Int32)).toNatClampNeg)))) _ h
def f_X3_group_38 (F : Nat) (a0 : Nat) (n : Nat) : Int32 → Int32 → Int32 → sm_M → Option (sm_M) := match n with
 | 0 => fun _ _ _ _ => none
 | n + 1 => f_X3_group_38b F a0 (f_X3_group_38 F a0 n)
theorem j_X3_group_38 {sk : List sm_Sh} (hx : sm_ext skX sk) (F : Nat) (a0 : Nat) (ha0 : sm_fan sk a0) : ∀ (n : Nat) (x1 : Int32) (x2 : Int32) (x3 : Int32) (M : sm_M) (r : sm_M), f_X3_group_38 F a0 n x1 x2 x3 M = some r → sm_J (md_X3_group, 1, sk, .inl none, r) 38 [some (.ref a0), some (.int x1), some (.int x2), some (.int x3), none] [] M := by
  intro n
  induction n with
  | zero => intro x1 x2 x3  M r h; exact nomatch (show (none : Option (sm_M)) = some r from h)
  | succ n ih => exact j_X3_group_38b hx F a0 ha0 (f_X3_group_38 F a0 n) ih
def f_X3_group_10b (F : Nat) (a0 : Nat) (kb10 : Int32 → Int32 → Int32 → sm_M → Option (sm_M)) (x1 : Int32) (x2 : Int32) (x3 : Int32) (M : sm_M) : Option (sm_M) := if x1 ≤ x3 then (f_X3_group_38 F a0 F x1 x2 (1 : Int32) M) else (sm_g (sm_ib x3 200) (sm_g (sm_ib (M.1 (a0 + 1) x3.toNatClampNeg) 201) (sm_g (sm_ib (M.1 (a0 + 1) x3.toNatClampNeg) 201) (kb10 x1 x2 (x3 + 1) ((sm_mi M (a0 + 3) (M.1 (a0 + 1) x3.toNatClampNeg).toNatClampNeg ((M.1 (a0 + 3) (M.1 (a0 + 1) x3.toNatClampNeg).toNatClampNeg) + (1 : Int32))))))))
set_option maxRecDepth 100000 in
set_option maxHeartbeats 4000000 in
theorem j_X3_group_10b {sk : List sm_Sh} (hx : sm_ext skX sk) (F : Nat) (a0 : Nat) (ha0 : sm_fan sk a0) (kb10 : Int32 → Int32 → Int32 → sm_M → Option (sm_M)) (hkb10 : ∀ (x1 : Int32) (x2 : Int32) (x3 : Int32) (M : sm_M) (r : sm_M), kb10 x1 x2 x3 M = some r → sm_J (md_X3_group, 1, sk, .inl none, r) 10 [some (.ref a0), some (.int x1), some (.int x2), some (.int x3), none] [] M) : ∀ (x1 : Int32) (x2 : Int32) (x3 : Int32) (M : sm_M) (r : sm_M), f_X3_group_10b F a0 kb10 x1 x2 x3 M = some r → sm_J (md_X3_group, 1, sk, .inl none, r) 10 [some (.ref a0), some (.int x1), some (.int x2), some (.int x3), none] [] M := by
  intro x1 x2 x3  M r h
  unfold f_X3_group_10b at h
  refine sm_iload_n (q := 11) d_X3_group_10 rfl rfl ?_
  refine sm_iload_n (q := 12) d_X3_group_11 rfl rfl ?_
  refine sm_icmp_ge (q := 15) (t := 36) d_X3_group_12 rfl rfl (fun c1 => ?_) (fun c1 => ?_)
  · replace h := sm_it c1 h
    refine sm_iconst (q := 37) d_X3_group_36 rfl ci_1 ?_
    refine sm_istore_n (q := 38) (lt := [some (.ref a0), some (.int x1), some (.int x2), some (.int (1 : Int32)), none]) d_X3_group_37 rfl (Nat.le_of_ble_eq_true rfl) rfl rfl ?_
    exact j_X3_group_38 hx F a0 ha0 F x1 x2 (1 : Int32) M _ h
  · replace h := sm_if c1 h
    refine sm_aload_n (q := 16) d_X3_group_15 rfl rfl ?_
    refine sm_getr (q := 19) d_X3_group_16 rfl fl_X3_18 ha0.1 rfl ?_
    refine sm_aload_n (q := 20) d_X3_group_19 rfl rfl ?_
    refine sm_getr (q := 23) d_X3_group_20 rfl fl_X3_9 ha0.1 rfl ?_
    refine sm_iload_n (q := 24) d_X3_group_23 rfl rfl ?_
    obtain ⟨g2, h⟩ := sm_gt h
    refine sm_iaload (q := 25) d_X3_group_24 rfl ha0.2.1 (sm_ib_of g2) ?_
    refine sm_dup2 (q := 26) d_X3_group_25 rfl rfl rfl ?_
    obtain ⟨g3, h⟩ := sm_gt h
    refine sm_iaload (q := 27) d_X3_group_26 rfl ha0.2.2.2 (sm_ib_of g3) ?_
    refine sm_iconst (q := 28) d_X3_group_27 rfl ci_1 ?_
    refine sm_iadd (q := 29) d_X3_group_28 rfl ?_
    obtain ⟨g4, h⟩ := sm_gt h
    refine sm_iastore (q := 30) d_X3_group_29 rfl ha0.2.2.2 (sm_ib_of g4) ?_
    refine sm_iinc (q := 33) (v := (x3 + 1)) (lt := [some (.ref a0), some (.int x1), some (.int x2), some (.int (x3 + 1)), none]) d_X3_group_30 rfl rfl (ii_1 _) (Nat.le_of_ble_eq_true rfl) rfl rfl ?_
    refine sm_goto (t := 10) d_X3_group_33 rfl ?_
    exact hkb10 x1 x2 (x3 + 1) ((sm_mi M (a0 + 3) (M.1 (a0 + 1) x3.toNatClampNeg).toNatClampNeg ((M.1 (a0 + 3) (M.1 (a0 + 1) x3.toNatClampNeg).toNatClampNeg) + (1 : Int32)))) _ h
def f_X3_group_10 (F : Nat) (a0 : Nat) (n : Nat) : Int32 → Int32 → Int32 → sm_M → Option (sm_M) := match n with
 | 0 => fun _ _ _ _ => none
 | n + 1 => f_X3_group_10b F a0 (f_X3_group_10 F a0 n)
theorem j_X3_group_10 {sk : List sm_Sh} (hx : sm_ext skX sk) (F : Nat) (a0 : Nat) (ha0 : sm_fan sk a0) : ∀ (n : Nat) (x1 : Int32) (x2 : Int32) (x3 : Int32) (M : sm_M) (r : sm_M), f_X3_group_10 F a0 n x1 x2 x3 M = some r → sm_J (md_X3_group, 1, sk, .inl none, r) 10 [some (.ref a0), some (.int x1), some (.int x2), some (.int x3), none] [] M := by
  intro n
  induction n with
  | zero => intro x1 x2 x3  M r h; exact nomatch (show (none : Option (sm_M)) = some r from h)
  | succ n ih => exact j_X3_group_10b hx F a0 ha0 (f_X3_group_10 F a0 n) ih
def f_X3_group (F : Nat) (a0 : Nat) (x1 : Int32) (x2 : Int32) (M : sm_M) : Option (sm_M) := (f_J7_fill_53178 F (a0 + 3) 201 (0 : Int32) M).bind fun q1 => f_X3_group_10 F a0 F x1 x2 (0 : Int32) q1
set_option maxRecDepth 100000 in
set_option maxHeartbeats 4000000 in
theorem j_X3_group {sk : List sm_Sh} (hx : sm_ext skX sk) (F : Nat) (a0 : Nat) (ha0 : sm_fan sk a0) : ∀ (x1 : Int32) (x2 : Int32) (M : sm_M) (r : sm_M), f_X3_group F a0 x1 x2 M = some r → sm_J (md_X3_group, 1, sk, .inl none, r) 0 [some (.ref a0), some (.int x1), some (.int x2), none, none] [] M := by
  intro x1 x2  M r h
  unfold f_X3_group at h
  refine sm_aload_n (q := 1) d_X3_group_0 rfl rfl ?_
  refine sm_getr (q := 4) d_X3_group_1 rfl fl_X3_18 ha0.1 rfl ?_
  refine sm_iconst (q := 5) d_X3_group_4 rfl ci_0 ?_
  obtain ⟨q1, e1, h⟩ := sm_bd h
  refine sm_callS (q := 8) (d' := 0) [] [.ref (a0 + 3), .int (0 : Int32)] d_X3_group_5 rfl lk_X3_21 rfl (Nat.le_of_ble_eq_true rfl) (Nat.le_of_ble_eq_true rfl) (c_J7_fill_53178 hx F (a0 + 3) 201 ha0.2.2.2 (0 : Int32) M _ e1) (st9 := []) rfl ?_
  refine sm_iconst (q := 9) d_X3_group_8 rfl ci_0 ?_
  refine sm_istore_n (q := 10) (lt := [some (.ref a0), some (.int x1), some (.int x2), some (.int (0 : Int32)), none]) d_X3_group_9 rfl (Nat.le_of_ble_eq_true rfl) rfl rfl ?_
  exact j_X3_group_10 hx F a0 ha0 F x1 x2 (0 : Int32) q1 _ h
theorem c_X3_group {sk : List sm_Sh} (hx : sm_ext skX sk) (F : Nat) (a0 : Nat) (ha0 : sm_fan sk a0) (x1 : Int32) (x2 : Int32) (M : sm_M) (r : sm_M) (h : f_X3_group F a0 x1 x2 M = some r) : sm_Ct yX3_group md_X3_group 1 sk [.ref a0, .int x1, .int x2] M (.inl none) r := sm_enter 2 pn_X3 rfl (Nat.le_of_ble_eq_true rfl) rfl (j_X3_group hx F a0 ha0 x1 x2 M r h)
/-! UniversalCycles$Graph.buildCircuit()V -/
theorem d_X4_buildCircuit_0 : decode cX4_buildCircuit 0 = .ok (.aload_n 0, 1) := by decide +kernel
theorem d_X4_buildCircuit_1 : decode cX4_buildCircuit 1 = .ok (.getfield 21, 3) := by decide +kernel
theorem d_X4_buildCircuit_4 : decode cX4_buildCircuit 4 = .ok (.getfield 108, 3) := by decide +kernel
theorem d_X4_buildCircuit_7 : decode cX4_buildCircuit 7 = .ok (.iconst 0, 1) := by decide +kernel
theorem d_X4_buildCircuit_8 : decode cX4_buildCircuit 8 = .ok (.aload_n 0, 1) := by decide +kernel
theorem d_X4_buildCircuit_9 : decode cX4_buildCircuit 9 = .ok (.getfield 38, 3) := by decide +kernel
theorem d_X4_buildCircuit_12 : decode cX4_buildCircuit 12 = .ok (.iconst 0, 1) := by decide +kernel
theorem d_X4_buildCircuit_13 : decode cX4_buildCircuit 13 = .ok (.aload_n 0, 1) := by decide +kernel
theorem d_X4_buildCircuit_14 : decode cX4_buildCircuit 14 = .ok (.getfield 38, 3) := by decide +kernel
theorem d_X4_buildCircuit_17 : decode cX4_buildCircuit 17 = .ok (.arraylength, 1) := by decide +kernel
theorem d_X4_buildCircuit_18 : decode cX4_buildCircuit 18 = .ok (.invokestatic 111, 3) := by decide +kernel
theorem d_X4_buildCircuit_21 : decode cX4_buildCircuit 21 = .ok (.aload_n 0, 1) := by decide +kernel
theorem d_X4_buildCircuit_22 : decode cX4_buildCircuit 22 = .ok (.getfield 32, 3) := by decide +kernel
theorem d_X4_buildCircuit_25 : decode cX4_buildCircuit 25 = .ok (.iconst 0, 1) := by decide +kernel
theorem d_X4_buildCircuit_26 : decode cX4_buildCircuit 26 = .ok (.iconst 0, 1) := by decide +kernel
theorem d_X4_buildCircuit_27 : decode cX4_buildCircuit 27 = .ok (.iastore, 1) := by decide +kernel
theorem d_X4_buildCircuit_28 : decode cX4_buildCircuit 28 = .ok (.aload_n 0, 1) := by decide +kernel
theorem d_X4_buildCircuit_29 : decode cX4_buildCircuit 29 = .ok (.getfield 35, 3) := by decide +kernel
theorem d_X4_buildCircuit_32 : decode cX4_buildCircuit 32 = .ok (.iconst 0, 1) := by decide +kernel
theorem d_X4_buildCircuit_33 : decode cX4_buildCircuit 33 = .ok (.iconst (-1), 1) := by decide +kernel
theorem d_X4_buildCircuit_34 : decode cX4_buildCircuit 34 = .ok (.iastore, 1) := by decide +kernel
theorem d_X4_buildCircuit_35 : decode cX4_buildCircuit 35 = .ok (.iconst 1, 1) := by decide +kernel
theorem d_X4_buildCircuit_36 : decode cX4_buildCircuit 36 = .ok (.istore_n 1, 1) := by decide +kernel
theorem d_X4_buildCircuit_37 : decode cX4_buildCircuit 37 = .ok (.aload_n 0, 1) := by decide +kernel
theorem d_X4_buildCircuit_38 : decode cX4_buildCircuit 38 = .ok (.getfield 69, 3) := by decide +kernel
theorem d_X4_buildCircuit_41 : decode cX4_buildCircuit 41 = .ok (.istore_n 2, 1) := by decide +kernel
theorem d_X4_buildCircuit_42 : decode cX4_buildCircuit 42 = .ok (.iconst 0, 1) := by decide +kernel
theorem d_X4_buildCircuit_43 : decode cX4_buildCircuit 43 = .ok (.istore_n 3, 1) := by decide +kernel
theorem d_X4_buildCircuit_44 : decode cX4_buildCircuit 44 = .ok (.iload_n 3, 1) := by decide +kernel
theorem d_X4_buildCircuit_45 : decode cX4_buildCircuit 45 = .ok (.iconst 2, 1) := by decide +kernel
theorem d_X4_buildCircuit_46 : decode cX4_buildCircuit 46 = .ok (.aload_n 0, 1) := by decide +kernel
theorem d_X4_buildCircuit_47 : decode cX4_buildCircuit 47 = .ok (.getfield 69, 3) := by decide +kernel
theorem d_X4_buildCircuit_50 : decode cX4_buildCircuit 50 = .ok (.imul, 1) := by decide +kernel
theorem d_X4_buildCircuit_51 : decode cX4_buildCircuit 51 = .ok (.if_icmp .gt 131, 3) := by decide +kernel
theorem d_X4_buildCircuit_54 : decode cX4_buildCircuit 54 = .ok (.iload_n 1, 1) := by decide +kernel
theorem d_X4_buildCircuit_55 : decode cX4_buildCircuit 55 = .ok (.ifCond .le 127, 3) := by decide +kernel
theorem d_X4_buildCircuit_58 : decode cX4_buildCircuit 58 = .ok (.aload_n 0, 1) := by decide +kernel
theorem d_X4_buildCircuit_59 : decode cX4_buildCircuit 59 = .ok (.getfield 32, 3) := by decide +kernel
theorem d_X4_buildCircuit_62 : decode cX4_buildCircuit 62 = .ok (.iload_n 1, 1) := by decide +kernel
theorem d_X4_buildCircuit_63 : decode cX4_buildCircuit 63 = .ok (.iconst 1, 1) := by decide +kernel
theorem d_X4_buildCircuit_64 : decode cX4_buildCircuit 64 = .ok (.isub, 1) := by decide +kernel
theorem d_X4_buildCircuit_65 : decode cX4_buildCircuit 65 = .ok (.iaload, 1) := by decide +kernel
theorem d_X4_buildCircuit_66 : decode cX4_buildCircuit 66 = .ok (.istore 4, 2) := by decide +kernel
theorem d_X4_buildCircuit_68 : decode cX4_buildCircuit 68 = .ok (.aload_n 0, 1) := by decide +kernel
theorem d_X4_buildCircuit_69 : decode cX4_buildCircuit 69 = .ok (.getfield 38, 3) := by decide +kernel
theorem d_X4_buildCircuit_72 : decode cX4_buildCircuit 72 = .ok (.iload 4, 2) := by decide +kernel
theorem d_X4_buildCircuit_74 : decode cX4_buildCircuit 74 = .ok (.iaload, 1) := by decide +kernel
theorem d_X4_buildCircuit_75 : decode cX4_buildCircuit 75 = .ok (.aload_n 0, 1) := by decide +kernel
theorem d_X4_buildCircuit_76 : decode cX4_buildCircuit 76 = .ok (.getfield 21, 3) := by decide +kernel
theorem d_X4_buildCircuit_79 : decode cX4_buildCircuit 79 = .ok (.getfield 108, 3) := by decide +kernel
theorem d_X4_buildCircuit_82 : decode cX4_buildCircuit 82 = .ok (.iload 4, 2) := by decide +kernel
theorem d_X4_buildCircuit_84 : decode cX4_buildCircuit 84 = .ok (.iconst 1, 1) := by decide +kernel
theorem d_X4_buildCircuit_85 : decode cX4_buildCircuit 85 = .ok (.iadd, 1) := by decide +kernel
theorem d_X4_buildCircuit_86 : decode cX4_buildCircuit 86 = .ok (.iaload, 1) := by decide +kernel
theorem d_X4_buildCircuit_87 : decode cX4_buildCircuit 87 = .ok (.if_icmp .ge 61, 3) := by decide +kernel
theorem d_X4_buildCircuit_90 : decode cX4_buildCircuit 90 = .ok (.aload_n 0, 1) := by decide +kernel
theorem d_X4_buildCircuit_91 : decode cX4_buildCircuit 91 = .ok (.getfield 21, 3) := by decide +kernel
theorem d_X4_buildCircuit_94 : decode cX4_buildCircuit 94 = .ok (.getfield 117, 3) := by decide +kernel
theorem d_X4_buildCircuit_97 : decode cX4_buildCircuit 97 = .ok (.aload_n 0, 1) := by decide +kernel
theorem d_X4_buildCircuit_98 : decode cX4_buildCircuit 98 = .ok (.getfield 38, 3) := by decide +kernel
theorem d_X4_buildCircuit_101 : decode cX4_buildCircuit 101 = .ok (.iload 4, 2) := by decide +kernel
theorem d_X4_buildCircuit_103 : decode cX4_buildCircuit 103 = .ok (.iaload, 1) := by decide +kernel
theorem d_X4_buildCircuit_104 : decode cX4_buildCircuit 104 = .ok (.iaload, 1) := by decide +kernel
theorem d_X4_buildCircuit_105 : decode cX4_buildCircuit 105 = .ok (.istore 5, 2) := by decide +kernel
theorem d_X4_buildCircuit_107 : decode cX4_buildCircuit 107 = .ok (.aload_n 0, 1) := by decide +kernel
theorem d_X4_buildCircuit_108 : decode cX4_buildCircuit 108 = .ok (.getfield 38, 3) := by decide +kernel
theorem d_X4_buildCircuit_111 : decode cX4_buildCircuit 111 = .ok (.iload 4, 2) := by decide +kernel
theorem d_X4_buildCircuit_113 : decode cX4_buildCircuit 113 = .ok (.dup2, 1) := by decide +kernel
theorem d_X4_buildCircuit_114 : decode cX4_buildCircuit 114 = .ok (.iaload, 1) := by decide +kernel
theorem d_X4_buildCircuit_115 : decode cX4_buildCircuit 115 = .ok (.iconst 1, 1) := by decide +kernel
theorem d_X4_buildCircuit_116 : decode cX4_buildCircuit 116 = .ok (.iadd, 1) := by decide +kernel
theorem d_X4_buildCircuit_117 : decode cX4_buildCircuit 117 = .ok (.iastore, 1) := by decide +kernel
theorem d_X4_buildCircuit_118 : decode cX4_buildCircuit 118 = .ok (.aload_n 0, 1) := by decide +kernel
theorem d_X4_buildCircuit_119 : decode cX4_buildCircuit 119 = .ok (.getfield 32, 3) := by decide +kernel
theorem d_X4_buildCircuit_122 : decode cX4_buildCircuit 122 = .ok (.iload_n 1, 1) := by decide +kernel
theorem d_X4_buildCircuit_123 : decode cX4_buildCircuit 123 = .ok (.aload_n 0, 1) := by decide +kernel
theorem d_X4_buildCircuit_124 : decode cX4_buildCircuit 124 = .ok (.getfield 25, 3) := by decide +kernel
theorem d_X4_buildCircuit_127 : decode cX4_buildCircuit 127 = .ok (.getfield 75, 3) := by decide +kernel
theorem d_X4_buildCircuit_130 : decode cX4_buildCircuit 130 = .ok (.iload 5, 2) := by decide +kernel
theorem d_X4_buildCircuit_132 : decode cX4_buildCircuit 132 = .ok (.iaload, 1) := by decide +kernel
theorem d_X4_buildCircuit_133 : decode cX4_buildCircuit 133 = .ok (.iastore, 1) := by decide +kernel
theorem d_X4_buildCircuit_134 : decode cX4_buildCircuit 134 = .ok (.aload_n 0, 1) := by decide +kernel
theorem d_X4_buildCircuit_135 : decode cX4_buildCircuit 135 = .ok (.getfield 35, 3) := by decide +kernel
theorem d_X4_buildCircuit_138 : decode cX4_buildCircuit 138 = .ok (.iload_n 1, 1) := by decide +kernel
theorem d_X4_buildCircuit_139 : decode cX4_buildCircuit 139 = .ok (.iload 5, 2) := by decide +kernel
theorem d_X4_buildCircuit_141 : decode cX4_buildCircuit 141 = .ok (.iastore, 1) := by decide +kernel
theorem d_X4_buildCircuit_142 : decode cX4_buildCircuit 142 = .ok (.iinc 1 1, 3) := by decide +kernel
theorem d_X4_buildCircuit_145 : decode cX4_buildCircuit 145 = .ok (.goto 31, 3) := by decide +kernel
theorem d_X4_buildCircuit_148 : decode cX4_buildCircuit 148 = .ok (.iinc 1 (-1), 3) := by decide +kernel
theorem d_X4_buildCircuit_151 : decode cX4_buildCircuit 151 = .ok (.aload_n 0, 1) := by decide +kernel
theorem d_X4_buildCircuit_152 : decode cX4_buildCircuit 152 = .ok (.getfield 35, 3) := by decide +kernel
theorem d_X4_buildCircuit_155 : decode cX4_buildCircuit 155 = .ok (.iload_n 1, 1) := by decide +kernel
theorem d_X4_buildCircuit_156 : decode cX4_buildCircuit 156 = .ok (.iaload, 1) := by decide +kernel
theorem d_X4_buildCircuit_157 : decode cX4_buildCircuit 157 = .ok (.iconst (-1), 1) := by decide +kernel
theorem d_X4_buildCircuit_158 : decode cX4_buildCircuit 158 = .ok (.if_icmp .eq 18, 3) := by decide +kernel
theorem d_X4_buildCircuit_161 : decode cX4_buildCircuit 161 = .ok (.iinc 2 (-1), 3) := by decide +kernel
theorem d_X4_buildCircuit_164 : decode cX4_buildCircuit 164 = .ok (.aload_n 0, 1) := by decide +kernel
theorem d_X4_buildCircuit_165 : decode cX4_buildCircuit 165 = .ok (.getfield 28, 3) := by decide +kernel
theorem d_X4_buildCircuit_168 : decode cX4_buildCircuit 168 = .ok (.iload_n 2, 1) := by decide +kernel
theorem d_X4_buildCircuit_169 : decode cX4_buildCircuit 169 = .ok (.aload_n 0, 1) := by decide +kernel
theorem d_X4_buildCircuit_170 : decode cX4_buildCircuit 170 = .ok (.getfield 35, 3) := by decide +kernel
theorem d_X4_buildCircuit_173 : decode cX4_buildCircuit 173 = .ok (.iload_n 1, 1) := by decide +kernel
theorem d_X4_buildCircuit_174 : decode cX4_buildCircuit 174 = .ok (.iaload, 1) := by decide +kernel
theorem d_X4_buildCircuit_175 : decode cX4_buildCircuit 175 = .ok (.iastore, 1) := by decide +kernel
theorem d_X4_buildCircuit_176 : decode cX4_buildCircuit 176 = .ok (.iinc 3 1, 3) := by decide +kernel
theorem d_X4_buildCircuit_179 : decode cX4_buildCircuit 179 = .ok (.goto (-135), 3) := by decide +kernel
theorem d_X4_buildCircuit_182 : decode cX4_buildCircuit 182 = .ok (.aload_n 0, 1) := by decide +kernel
theorem d_X4_buildCircuit_183 : decode cX4_buildCircuit 183 = .ok (.iload_n 2, 1) := by decide +kernel
theorem d_X4_buildCircuit_184 : decode cX4_buildCircuit 184 = .ok (.ifCond .ne 7, 3) := by decide +kernel
theorem d_X4_buildCircuit_187 : decode cX4_buildCircuit 187 = .ok (.iconst 1, 1) := by decide +kernel
theorem d_X4_buildCircuit_188 : decode cX4_buildCircuit 188 = .ok (.goto 4, 3) := by decide +kernel
theorem d_X4_buildCircuit_191 : decode cX4_buildCircuit 191 = .ok (.iconst 0, 1) := by decide +kernel
theorem d_X4_buildCircuit_192 : decode cX4_buildCircuit 192 = .ok (.putfield 120, 3) := by decide +kernel
theorem d_X4_buildCircuit_195 : decode cX4_buildCircuit 195 = .ok (.return_, 1) := by decide +kernel
def f_X4_buildCircuit_176 (F : Nat) (kb44 : Int32 → Int32 → Int32 → sm_M → Option (sm_M)) (x1 : Int32) (x2 : Int32) (x3 : Int32) (M : sm_M) : Option (sm_M) := kb44 x1 x2 (x3 + 1) M
set_option maxRecDepth 100000 in
set_option maxHeartbeats 4000000 in
theorem j_X4_buildCircuit_176 {sk : List sm_Sh} (hx : sm_ext skX sk) (F : Nat) (kb44 : Int32 → Int32 → Int32 → sm_M → Option (sm_M)) (hkb44 : ∀ (x1 : Int32) (x2 : Int32) (x3 : Int32) (M : sm_M) (r : sm_M), kb44 x1 x2 x3 M = some r → sm_J (md_X4_buildCircuit, 1, sk, .inl none, r) 44 [some (.ref 5), some (.int x1), some (.int x2), some (.int x3), none, none] [] M) : ∀ (x1 : Int32) (x2 : Int32) (x3 : Int32) (M : sm_M) (r : sm_M), f_X4_buildCircuit_176 F kb44 x1 x2 x3 M = some r → sm_J (md_X4_buildCircuit, 1, sk, .inl none, r) 176 [some (.ref 5), some (.int x1), some (.int x2), some (.int x3), none, none] [] M := by
  intro x1 x2 x3  M r h
  unfold f_X4_buildCircuit_176 at h
  refine sm_iinc (q := 179) (v := (x3 + 1)) (lt := [some (.ref 5), some (.int x1), some (.int x2), some (.int (x3 + 1)), none, none]) d_X4_buildCircuit_176 rfl rfl (ii_1 _) (Nat.le_of_ble_eq_true rfl) rfl rfl ?_
  refine sm_goto (t := 44) d_X4_buildCircuit_179 rfl ?_
  exact hkb44 x1 x2 (x3 + 1) M _ h
def f_X4_buildCircuit_192 (F : Nat) (y1 : Int32) (M : sm_M) : Option (sm_M) := sm_g (sm_nar .boolean y1) (some (sm_mi M 5 11 y1))
set_option maxRecDepth 100000 in
set_option maxHeartbeats 4000000 in
theorem j_X4_buildCircuit_192 {sk : List sm_Sh} (hx : sm_ext skX sk) (F : Nat) : ∀ (y1 : Int32) (M : sm_M) (r : sm_M), f_X4_buildCircuit_192 F y1 M = some r → sm_J (md_X4_buildCircuit, 1, sk, .inl none, r) 192 [none, none, none, none, none, none] [.int y1, .ref 5] M := by
  intro y1  M r h
  unfold f_X4_buildCircuit_192 at h
  obtain ⟨g1, h⟩ := sm_gt h
  refine sm_puti (q := 195) d_X4_buildCircuit_192 rfl fw_X4_120 (hx sx_5) rfl (sm_nar_of g1).1 (sm_nar_of g1).2 ?_
  obtain rfl := Option.some.inj h
  exact sm_vret d_X4_buildCircuit_195 rfl rfl rfl
def f_X4_buildCircuit_182 (F : Nat) (x2 : Int32) (M : sm_M) : Option (sm_M) := if x2 = 0 then (f_X4_buildCircuit_192 F (1 : Int32) M) else (f_X4_buildCircuit_192 F (0 : Int32) M)
set_option maxRecDepth 100000 in
set_option maxHeartbeats 4000000 in
theorem j_X4_buildCircuit_182 {sk : List sm_Sh} (hx : sm_ext skX sk) (F : Nat) : ∀ (x2 : Int32) (M : sm_M) (r : sm_M), f_X4_buildCircuit_182 F x2 M = some r → sm_J (md_X4_buildCircuit, 1, sk, .inl none, r) 182 [some (.ref 5), none, some (.int x2), none, none, none] [] M := by
  intro x2  M r h
  unfold f_X4_buildCircuit_182 at h
  refine sm_aload_n (q := 183) d_X4_buildCircuit_182 rfl rfl ?_
  refine sm_iload_n (q := 184) d_X4_buildCircuit_183 rfl rfl ?_
  refine sm_if_ne (q := 187) (t := 191) d_X4_buildCircuit_184 rfl rfl (fun c1 => ?_) (fun c1 => ?_)
  · replace h := sm_if c1 h
    refine sm_iconst (q := 192) d_X4_buildCircuit_191 rfl ci_0 ?_
    refine sm_fg [0, 2] ?_
    exact j_X4_buildCircuit_192 hx F (0 : Int32) M _ h
  · replace h := sm_it c1 h
    refine sm_iconst (q := 188) d_X4_buildCircuit_187 rfl ci_1 ?_
    refine sm_goto (t := 192) d_X4_buildCircuit_188 rfl ?_
    refine sm_fg [0, 2] ?_
    exact j_X4_buildCircuit_192 hx F (1 : Int32) M _ h
def f_X4_buildCircuit_44b (F : Nat) (kb44 : Int32 → Int32 → Int32 → sm_M → Option (sm_M)) (x1 : Int32) (x2 : Int32) (x3 : Int32) (M : sm_M) : Option (sm_M) := if ((2 : Int32) * (M.1 5 10)) < x3 then (f_X4_buildCircuit_182 F x2 M) else (if x1 ≤ 0 then (f_X4_buildCircuit_182 F x2 M) else (sm_g (sm_ib (x1 - (1 : Int32)) 201) (sm_g (sm_ib (M.1 18 (x1 - (1 : Int32)).toNatClampNeg) 200) (sm_g (sm_ib ((M.1 18 (x1 - (1 : Int32)).toNatClampNeg) + (1 : Int32)) 201) (if (M.1 12 ((M.1 18 (x1 - (1 : Int32)).toNatClampNeg) + (1 : Int32)).toNatClampNeg) ≤ (M.1 20 (M.1 18 (x1 - (1 : Int32)).toNatClampNeg).toNatClampNeg) then (sm_g (sm_ib (x1 + (-1)) 201) (if (M.1 19 (x1 + (-1)).toNatClampNeg) = (-1 : Int32) then (f_X4_buildCircuit_176 F kb44 (x1 + (-1)) x2 x3 M) else (sm_g (sm_ib (x1 + (-1)) 201) (sm_g (sm_ib (x2 + (-1)) 200) (f_X4_buildCircuit_176 F kb44 (x1 + (-1)) (x2 + (-1)) x3 ((sm_mi M 17 (x2 + (-1)).toNatClampNeg (M.1 19 (x1 + (-1)).toNatClampNeg)))))))) else (sm_g (sm_ib (M.1 18 (x1 - (1 : Int32)).toNatClampNeg) 200) (sm_g (sm_ib (M.1 20 (M.1 18 (x1 - (1 : Int32)).toNatClampNeg).toNatClampNeg) 200) (sm_g (sm_ib (M.1 18 (x1 - (1 : Int32)).toNatClampNeg) 200) (sm_g (sm_ib (M.1 18 (x1 - (1 : Int32)).toNatClampNeg) 200) (sm_g (sm_ib (M.1 11 (M.1 20 (M.1 18 (x1 - (1 : Int32)).toNatClampNeg).toNatClampNeg).toNatClampNeg) 200) (sm_g (sm_ib x1 201) (sm_g (sm_ib x1 201) (f_X4_buildCircuit_176 F kb44 (x1 + 1) x2 x3 ((sm_mi (sm_mi (sm_mi M 20 (M.1 18 (x1 - (1 : Int32)).toNatClampNeg).toNatClampNeg ((M.1 20 (M.1 18 (x1 - (1 : Int32)).toNatClampNeg).toNatClampNeg) + (1 : Int32))) 18 x1.toNatClampNeg ((sm_mi M 20 (M.1 18 (x1 - (1 : Int32)).toNatClampNeg).toNatClampNeg ((M.1 20 (M.1 18 (x1 - (1 : Int32)).toNatClampNeg).toNatClampNeg) + (1 : Int32))).1 14 (M.1 11 (M.1 20 (M.1 18 (x1 - (1 : Int32)).toNatClampNeg).toNatClampNeg).toNatClampNeg).toNatClampNeg)) 19 x1.toNatClampNeg (M.1 11 (M.1 20 (M.1 18 (x1 - (1 : Int32)).toNatClampNeg).toNatClampNeg).toNatClampNeg))))))))))))))))
set_option maxRecDepth 100000 in
set_option maxHeartbeats 4000000 in
theorem j_X4_buildCircuit_44b {sk : List sm_Sh} (hx : sm_ext skX sk) (F : Nat) (kb44 : Int32 → Int32 → Int32 → sm_M → Option (sm_M)) (hkb44 : ∀ (x1 : Int32) (x2 : Int32) (x3 : Int32) (M : sm_M) (r : sm_M), kb44 x1 x2 x3 M = some r → sm_J (md_X4_buildCircuit, 1, sk, .inl none, r) 44 [some (.ref 5), some (.int x1), some (.int x2), some (.int x3), none, none] [] M) : ∀ (x1 : Int32) (x2 : Int32) (x3 : Int32) (M : sm_M) (r : sm_M), f_X4_buildCircuit_44b F kb44 x1 x2 x3 M = some r → sm_J (md_X4_buildCircuit, 1, sk, .inl none, r) 44 [some (.ref 5), some (.int x1), some (.int x2), some (.int x3), none, none] [] M := by
  intro x1 x2 x3  M r h
  unfold f_X4_buildCircuit_44b at h
  refine sm_iload_n (q := 45) d_X4_buildCircuit_44 rfl rfl ?_
  refine sm_iconst (q := 46) d_X4_buildCircuit_45 rfl ci_2 ?_
  refine sm_aload_n (q := 47) d_X4_buildCircuit_46 rfl rfl ?_
  refine sm_geti (q := 50) d_X4_buildCircuit_47 rfl fl_X4_69 (hx sx_5) rfl ?_
  refine sm_imul (q := 51) d_X4_buildCircuit_50 rfl ?_
  refine sm_icmp_gt (q := 54) (t := 182) d_X4_buildCircuit_51 rfl rfl (fun c1 => ?_) (fun c1 => ?_)
  · replace h := sm_it c1 h
    refine sm_fg [1, 3] ?_
    exact j_X4_buildCircuit_182 hx F x2 M _ h
  · replace h := sm_if c1 h
    refine sm_iload_n (q := 55) d_X4_buildCircuit_54 rfl rfl ?_
    refine sm_if_le (q := 58) (t := 182) d_X4_buildCircuit_55 rfl rfl (fun c2 => ?_) (fun c2 => ?_)
    · replace h := sm_it c2 h
      refine sm_fg [1, 3] ?_
      exact j_X4_buildCircuit_182 hx F x2 M _ h
    · replace h := sm_if c2 h
      refine sm_aload_n (q := 59) d_X4_buildCircuit_58 rfl rfl ?_
      refine sm_getr (q := 62) d_X4_buildCircuit_59 rfl fl_X4_32 (hx sx_5) rfl ?_
      refine sm_iload_n (q := 63) d_X4_buildCircuit_62 rfl rfl ?_
      refine sm_iconst (q := 64) d_X4_buildCircuit_63 rfl ci_1 ?_
      refine sm_isub (q := 65) d_X4_buildCircuit_64 rfl ?_
      obtain ⟨g3, h⟩ := sm_gt h
      refine sm_iaload (q := 66) d_X4_buildCircuit_65 rfl (hx sx_18) (sm_ib_of g3) ?_
      refine sm_istore (q := 68) (lt := [some (.ref 5), some (.int x1), some (.int x2), some (.int x3), some (.int (M.1 18 (x1 - (1 : Int32)).toNatClampNeg)), none]) d_X4_buildCircuit_66 rfl (Nat.le_of_ble_eq_true rfl) rfl rfl ?_
      refine sm_aload_n (q := 69) d_X4_buildCircuit_68 rfl rfl ?_
      refine sm_getr (q := 72) d_X4_buildCircuit_69 rfl fl_X4_38 (hx sx_5) rfl ?_
      refine sm_iload (q := 74) d_X4_buildCircuit_72 rfl rfl ?_
      obtain ⟨g4, h⟩ := sm_gt h
      refine sm_iaload (q := 75) d_X4_buildCircuit_74 rfl (hx sx_20) (sm_ib_of g4) ?_
      refine sm_aload_n (q := 76) d_X4_buildCircuit_75 rfl rfl ?_
      refine sm_getr (q := 79) d_X4_buildCircuit_76 rfl fl_X4_21 (hx sx_5) rfl ?_
      refine sm_getr (q := 82) d_X4_buildCircuit_79 rfl fl_X4_108 (hx sx_9) rfl ?_
      refine sm_iload (q := 84) d_X4_buildCircuit_82 rfl rfl ?_
      refine sm_iconst (q := 85) d_X4_buildCircuit_84 rfl ci_1 ?_
      refine sm_iadd (q := 86) d_X4_buildCircuit_85 rfl ?_
      obtain ⟨g5, h⟩ := sm_gt h
      refine sm_iaload (q := 87) d_X4_buildCircuit_86 rfl (hx sx_12) (sm_ib_of g5) ?_
      refine sm_icmp_ge (q := 90) (t := 148) d_X4_buildCircuit_87 rfl rfl (fun c6 => ?_) (fun c6 => ?_)
      · replace h := sm_it c6 h
        refine sm_iinc (q := 151) (v := (x1 + (-1))) (lt := [some (.ref 5), some (.int (x1 + (-1))), some (.int x2), some (.int x3), some (.int (M.1 18 (x1 - (1 : Int32)).toNatClampNeg)), none]) d_X4_buildCircuit_148 rfl rfl (ii_m1 _) (Nat.le_of_ble_eq_true rfl) rfl rfl ?_
        refine sm_aload_n (q := 152) d_X4_buildCircuit_151 rfl rfl ?_
        refine sm_getr (q := 155) d_X4_buildCircuit_152 rfl fl_X4_35 (hx sx_5) rfl ?_
        refine sm_iload_n (q := 156) d_X4_buildCircuit_155 rfl rfl ?_
        obtain ⟨g7, h⟩ := sm_gt h
        refine sm_iaload (q := 157) d_X4_buildCircuit_156 rfl (hx sx_19) (sm_ib_of g7) ?_
        refine sm_iconst (q := 158) d_X4_buildCircuit_157 rfl ci_m1 ?_
        refine sm_icmp_eq (q := 161) (t := 176) d_X4_buildCircuit_158 rfl rfl (fun c8 => ?_) (fun c8 => ?_)
        · replace h := sm_it c8 h
          refine sm_fg [4] ?_
          exact j_X4_buildCircuit_176 hx F kb44 hkb44 (x1 + (-1)) x2 x3 M _ h
        · replace h := sm_if c8 h
          refine sm_iinc (q := 164) (v := (x2 + (-1))) (lt := [some (.ref 5), some (.int (x1 + (-1))), some (.int (x2 + (-1))), some (.int x3), some (.int (M.1 18 (x1 - (1 : Int32)).toNatClampNeg)), none]) d_X4_buildCircuit_161 rfl rfl (ii_m1 _) (Nat.le_of_ble_eq_true rfl) rfl rfl ?_
          refine sm_aload_n (q := 165) d_X4_buildCircuit_164 rfl rfl ?_
          refine sm_getr (q := 168) d_X4_buildCircuit_165 rfl fl_X4_28 (hx sx_5) rfl ?_
          refine sm_iload_n (q := 169) d_X4_buildCircuit_168 rfl rfl ?_
          refine sm_aload_n (q := 170) d_X4_buildCircuit_169 rfl rfl ?_
          refine sm_getr (q := 173) d_X4_buildCircuit_170 rfl fl_X4_35 (hx sx_5) rfl ?_
          refine sm_iload_n (q := 174) d_X4_buildCircuit_173 rfl rfl ?_
          obtain ⟨g9, h⟩ := sm_gt h
          refine sm_iaload (q := 175) d_X4_buildCircuit_174 rfl (hx sx_19) (sm_ib_of g9) ?_
          obtain ⟨g10, h⟩ := sm_gt h
          refine sm_iastore (q := 176) d_X4_buildCircuit_175 rfl (hx sx_17) (sm_ib_of g10) ?_
          refine sm_fg [4] ?_
          exact j_X4_buildCircuit_176 hx F kb44 hkb44 (x1 + (-1)) (x2 + (-1)) x3 ((sm_mi M 17 (x2 + (-1)).toNatClampNeg (M.1 19 (x1 + (-1)).toNatClampNeg))) _ h
      · replace h := sm_if c6 h
        refine sm_aload_n (q := 91) d_X4_buildCircuit_90 rfl rfl ?_
        refine sm_getr (q := 94) d_X4_buildCircuit_91 rfl fl_X4_21 (hx sx_5) rfl ?_
        refine sm_getr (q := 97) d_X4_buildCircuit_94 rfl fl_X4_117 (hx sx_9) rfl ?_
        refine sm_aload_n (q := 98) d_X4_buildCircuit_97 rfl rfl ?_
        refine sm_getr (q := 101) d_X4_buildCircuit_98 rfl fl_X4_38 (hx sx_5) rfl ?_
        refine sm_iload (q := 103) d_X4_buildCircuit_101 rfl rfl ?_
        obtain ⟨g11, h⟩ := sm_gt h
        refine sm_iaload (q := 104) d_X4_buildCircuit_103 rfl (hx sx_20) (sm_ib_of g11) ?_
        obtain ⟨g12, h⟩ := sm_gt h
        refine sm_iaload (q := 105) d_X4_buildCircuit_104 rfl (hx sx_11) (sm_ib_of g12) ?_
        refine sm_istore (q := 107) (lt := [some (.ref 5), some (.int x1), some (.int x2), some (.int x3), some (.int (M.1 18 (x1 - (1 : Int32)).toNatClampNeg)), some (.int (M.1 11 (M.1 20 (M.1 18 (x1 - (1 : Int32)).toNatClampNeg).toNatClampNeg).toNatClampNeg))]) d_X4_buildCircuit_105 rfl (Nat.le_of_ble_eq_true rfl) rfl rfl ?_
        refine sm_aload_n (q := 108) d_X4_buildCircuit_107 rfl rfl ?_
        refine sm_getr (q := 111) d_X4_buildCircuit_108 rfl fl_X4_38 (hx sx_5) rfl ?_
        refine sm_iload (q := 113) d_X4_buildCircuit_111 rfl rfl ?_
        refine sm_dup2 (q := 114) d_X4_buildCircuit_113 rfl rfl rfl ?_
        obtain ⟨g13, h⟩ := sm_gt h
        refine sm_iaload (q := 115) d_X4_buildCircuit_114 rfl (hx sx_20) (sm_ib_of g13) ?_
        refine sm_iconst (q := 116) d_X4_buildCircuit_115 rfl ci_1 ?_
        refine sm_iadd (q := 117) d_X4_buildCircuit_116 rfl ?_
        obtain ⟨g14, h⟩ := sm_gt h
        refine sm_iastore (q := 118) d_X4_buildCircuit_117 rfl (hx sx_20) (sm_ib_of g14) ?_
        refine sm_aload_n (q := 119) d_X4_buildCircuit_118 rfl rfl ?_
        refine sm_getr (q := 122) d_X4_buildCircuit_119 rfl fl_X4_32 (hx sx_5) rfl ?_
        refine sm_iload_n (q := 123) d_X4_buildCircuit_122 rfl rfl ?_
        refine sm_aload_n (q := 124) d_X4_buildCircuit_123 rfl rfl ?_
        refine sm_getr (q := 127) d_X4_buildCircuit_124 rfl fl_X4_25 (hx sx_5) rfl ?_
        refine sm_getr (q := 130) d_X4_buildCircuit_127 rfl fl_X4_75 (hx sx_13) rfl ?_
        refine sm_iload (q := 132) d_X4_buildCircuit_130 rfl rfl ?_
        obtain ⟨g15, h⟩ := sm_gt h
        refine sm_iaload (q := 133) d_X4_buildCircuit_132 rfl (hx sx_14) (sm_ib_of g15) ?_
        obtain ⟨g16, h⟩ := sm_gt h
        refine sm_iastore (q := 134) d_X4_buildCircuit_133 rfl (hx sx_18) (sm_ib_of g16) ?_
        refine sm_aload_n (q := 135) d_X4_buildCircuit_134 rfl rfl ?_
        refine sm_getr (q := 138) d_X4_buildCircuit_135 rfl fl_X4_35 (hx sx_5) rfl ?_
        refine sm_iload_n (q := 139) d_X4_buildCircuit_138 rfl rfl ?_
        refine sm_iload (q := 141) d_X4_buildCircuit_139 rfl rfl ?_
        obtain ⟨g17, h⟩ := sm_gt h
        refine sm_iastore (q := 142) d_X4_buildCircuit_141 rfl (hx sx_19) (sm_ib_of g17) ?_
        refine sm_iinc (q := 145) (v := (x1 + 1)) (lt := [some (.ref 5), some (.int (x1 + 1)), some (.int x2), some (.int x3), some (.int (M.1 18 (x1 - (1 : Int32)).toNatClampNeg)), some (.int (M.1 11 (M.1 20 (M.1 18 (x1 - (1 : Int32)).toNatClampNeg).toNatClampNeg).toNatClampNeg))]) d_X4_buildCircuit_142 rfl rfl (ii_1 _) (Nat.le_of_ble_eq_true rfl) rfl rfl ?_
        refine sm_goto (t := 176) d_X4_buildCircuit_145 rfl ?_
        refine sm_fg [4, 5] ?_
        exact j_X4_buildCircuit_176 hx F kb44 hkb44 (x1 + 1) x2 x3 ((sm_mi (sm_mi (sm_mi M 20 (M.1 18 (x1 - (1 : Int32)).toNatClampNeg).toNatClampNeg ((M.1 20 (M.1 18 (x1 - (1 : Int32)).toNatClampNeg).toNatClampNeg) + (1 : Int32))) 18 x1.toNatClampNeg ((sm_mi M 20 (M.1 18 (x1 - (1 : Int32)).toNatClampNeg).toNatClampNeg ((M.1 20 (M.1 18 (x1 - (1 : Int32)).toNatClampNeg).toNatClampNeg) + (1 : Int32))).1 14 (M.1 11 (M.1 20 (M.1 18 (x1 - (1 : Int32)).toNatClampNeg).toNatClampNeg).toNatClampNeg).toNatClampNeg)) 19 x1.toNatClampNeg (M.1 11 (M.1 20 (M.1 18 (x1 - (1 : Int32)).toNatClampNeg).toNatClampNeg).toNatClampNeg))) _ h
def f_X4_buildCircuit_44 (F : Nat) (n : Nat) : Int32 → Int32 → Int32 → sm_M → Option (sm_M) := match n with
 | 0 => fun _ _ _ _ => none
 | n + 1 => f_X4_buildCircuit_44b F (f_X4_buildCircuit_44 F n)
theorem j_X4_buildCircuit_44 {sk : List sm_Sh} (hx : sm_ext skX sk) (F : Nat) : ∀ (n : Nat) (x1 : Int32) (x2 : Int32) (x3 : Int32) (M : sm_M) (r : sm_M), f_X4_buildCircuit_44 F n x1 x2 x3 M = some r → sm_J (md_X4_buildCircuit, 1, sk, .inl none, r) 44 [some (.ref 5), some (.int x1), some (.int x2), some (.int x3), none, none] [] M := by
  intro n
  induction n with
  | zero => intro x1 x2 x3  M r h; exact nomatch (show (none : Option (sm_M)) = some r from h)
  | succ n ih => exact j_X4_buildCircuit_44b hx F (f_X4_buildCircuit_44 F n) ih
def f_X4_buildCircuit (F : Nat) (M : sm_M) : Option (sm_M) := sm_g (sm_cpb (0 : Int32) (0 : Int32) (200 : Int32) 201 200) (f_X4_buildCircuit_44 F F (1 : Int32) (((sm_mi (sm_mi (sm_mc M 12 20 (0 : Int32).toNatClampNeg (0 : Int32).toNatClampNeg (200 : Int32).toNatClampNeg) 18 (0 : Int32).toNatClampNeg (0 : Int32)) 19 (0 : Int32).toNatClampNeg (-1 : Int32))).1 5 10) (0 : Int32) ((sm_mi (sm_mi (sm_mc M 12 20 (0 : Int32).toNatClampNeg (0 : Int32).toNatClampNeg (200 : Int32).toNatClampNeg) 18 (0 : Int32).toNatClampNeg (0 : Int32)) 19 (0 : Int32).toNatClampNeg (-1 : Int32))))
set_option maxRecDepth 100000 in
set_option maxHeartbeats 4000000 in
theorem j_X4_buildCircuit {sk : List sm_Sh} (hx : sm_ext skX sk) (F : Nat) : ∀ (M : sm_M) (r : sm_M), f_X4_buildCircuit F M = some r → sm_J (md_X4_buildCircuit, 1, sk, .inl none, r) 0 [some (.ref 5), none, none, none, none, none] [] M := by
  intro   M r h
  unfold f_X4_buildCircuit at h
  refine sm_aload_n (q := 1) d_X4_buildCircuit_0 rfl rfl ?_
  refine sm_getr (q := 4) d_X4_buildCircuit_1 rfl fl_X4_21 (hx sx_5) rfl ?_
  refine sm_getr (q := 7) d_X4_buildCircuit_4 rfl fl_X4_108 (hx sx_9) rfl ?_
  refine sm_iconst (q := 8) d_X4_buildCircuit_7 rfl ci_0 ?_
  refine sm_aload_n (q := 9) d_X4_buildCircuit_8 rfl rfl ?_
  refine sm_getr (q := 12) d_X4_buildCircuit_9 rfl fl_X4_38 (hx sx_5) rfl ?_
  refine sm_iconst (q := 13) d_X4_buildCircuit_12 rfl ci_0 ?_
  refine sm_aload_n (q := 14) d_X4_buildCircuit_13 rfl rfl ?_
  refine sm_getr (q := 17) d_X4_buildCircuit_14 rfl fl_X4_38 (hx sx_5) rfl ?_
  refine sm_arraylength (q := 18) d_X4_buildCircuit_17 rfl (hx sx_20) (by decide) cz_200 ?_
  obtain ⟨g1, h⟩ := sm_gt h
  refine sm_copy (q := 21) d_X4_buildCircuit_18 rfl lk_X4_111 (hx sx_12) (hx sx_20) (sm_cpb_of g1).1 (sm_cpb_of g1).2.1 (sm_cpb_of g1).2.2.1 (sm_cpb_of g1).2.2.2.1 (sm_cpb_of g1).2.2.2.2 (Nat.le_of_ble_eq_true rfl) (Nat.le_of_ble_eq_true rfl) ?_
  refine sm_aload_n (q := 22) d_X4_buildCircuit_21 rfl rfl ?_
  refine sm_getr (q := 25) d_X4_buildCircuit_22 rfl fl_X4_32 (hx sx_5) rfl ?_
  refine sm_iconst (q := 26) d_X4_buildCircuit_25 rfl ci_0 ?_
  refine sm_iconst (q := 27) d_X4_buildCircuit_26 rfl ci_0 ?_
  refine sm_iastore (q := 28) d_X4_buildCircuit_27 rfl (hx sx_18) (sm_ib_of (by decide)) ?_
  refine sm_aload_n (q := 29) d_X4_buildCircuit_28 rfl rfl ?_
  refine sm_getr (q := 32) d_X4_buildCircuit_29 rfl fl_X4_35 (hx sx_5) rfl ?_
  refine sm_iconst (q := 33) d_X4_buildCircuit_32 rfl ci_0 ?_
  refine sm_iconst (q := 34) d_X4_buildCircuit_33 rfl ci_m1 ?_
  refine sm_iastore (q := 35) d_X4_buildCircuit_34 rfl (hx sx_19) (sm_ib_of (by decide)) ?_
  refine sm_iconst (q := 36) d_X4_buildCircuit_35 rfl ci_1 ?_
  refine sm_istore_n (q := 37) (lt := [some (.ref 5), some (.int (1 : Int32)), none, none, none, none]) d_X4_buildCircuit_36 rfl (Nat.le_of_ble_eq_true rfl) rfl rfl ?_
  refine sm_aload_n (q := 38) d_X4_buildCircuit_37 rfl rfl ?_
  refine sm_geti (q := 41) d_X4_buildCircuit_38 rfl fl_X4_69 (hx sx_5) rfl ?_
  refine sm_istore_n (q := 42) (lt := [some (.ref 5), some (.int (1 : Int32)), some (.int (((sm_mi (sm_mi (sm_mc M 12 20 (0 : Int32).toNatClampNeg (0 : Int32).toNatClampNeg (200 : Int32).toNatClampNeg) 18 (0 : Int32).toNatClampNeg (0 : Int32)) 19 (0 : Int32).toNatClampNeg (-1 : Int32))).1 5 10)), none, none, none]) d_X4_buildCircuit_41 rfl (Nat.le_of_ble_eq_true rfl) rfl rfl ?_
  refine sm_iconst (q := 43) d_X4_buildCircuit_42 rfl ci_0 ?_
  refine sm_istore_n (q := 44) (lt := [some (.ref 5), some (.int (1 : Int32)), some (.int (((sm_mi (sm_mi (sm_mc M 12 20 (0 : Int32).toNatClampNeg (0 : Int32).toNatClampNeg (200 : Int32).toNatClampNeg) 18 (0 : Int32).toNatClampNeg (0 : Int32)) 19 (0 : Int32).toNatClampNeg (-1 : Int32))).1 5 10)), some (.int (0 : Int32)), none, none]) d_X4_buildCircuit_43 rfl (Nat.le_of_ble_eq_true rfl) rfl rfl ?_
  exact j_X4_buildCircuit_44 hx F F (1 : Int32) (((sm_mi (sm_mi (sm_mc M 12 20 (0 : Int32).toNatClampNeg (0 : Int32).toNatClampNeg (200 : Int32).toNatClampNeg) 18 (0 : Int32).toNatClampNeg (0 : Int32)) 19 (0 : Int32).toNatClampNeg (-1 : Int32))).1 5 10) (0 : Int32) ((sm_mi (sm_mi (sm_mc M 12 20 (0 : Int32).toNatClampNeg (0 : Int32).toNatClampNeg (200 : Int32).toNatClampNeg) 18 (0 : Int32).toNatClampNeg (0 : Int32)) 19 (0 : Int32).toNatClampNeg (-1 : Int32))) _ h
theorem c_X4_buildCircuit {sk : List sm_Sh} (hx : sm_ext skX sk) (F : Nat) (M : sm_M) (r : sm_M) (h : f_X4_buildCircuit F M = some r) : sm_Ct yX4_buildCircuit md_X4_buildCircuit 1 sk [.ref 5] M (.inl none) r := sm_enter 5 pn_X4 rfl (Nat.le_of_ble_eq_true rfl) rfl (j_X4_buildCircuit hx F M r h)
/-! UniversalCycles$Graph.build(LUniversalCycles$Family;)V -/
theorem d_X4_build_0 : decode cX4_build 0 = .ok (.aload_n 1, 1) := by decide +kernel
theorem d_X4_build_1 : decode cX4_build 1 = .ok (.getfield 50, 3) := by decide +kernel
theorem d_X4_build_4 : decode cX4_build 4 = .ok (.iconst 3, 1) := by decide +kernel
theorem d_X4_build_5 : decode cX4_build 5 = .ok (.if_icmp .ne 4, 3) := by decide +kernel
theorem d_X4_build_8 : decode cX4_build 8 = .ok (.return_, 1) := by decide +kernel
theorem d_X4_build_9 : decode cX4_build 9 = .ok (.aload_n 1, 1) := by decide +kernel
theorem d_X4_build_10 : decode cX4_build 10 = .ok (.aload_n 0, 1) := by decide +kernel
theorem d_X4_build_11 : decode cX4_build 11 = .ok (.getfield 12, 3) := by decide +kernel
theorem d_X4_build_14 : decode cX4_build 14 = .ok (.aload_n 1, 1) := by decide +kernel
theorem d_X4_build_15 : decode cX4_build 15 = .ok (.getfield 56, 3) := by decide +kernel
theorem d_X4_build_18 : decode cX4_build 18 = .ok (.iconst 1, 1) := by decide +kernel
theorem d_X4_build_19 : decode cX4_build 19 = .ok (.isub, 1) := by decide +kernel
theorem d_X4_build_20 : decode cX4_build 20 = .ok (.invokevirtual 59, 3) := by decide +kernel
theorem d_X4_build_23 : decode cX4_build 23 = .ok (.aload_n 0, 1) := by decide +kernel
theorem d_X4_build_24 : decode cX4_build 24 = .ok (.aload_n 1, 1) := by decide +kernel
theorem d_X4_build_25 : decode cX4_build 25 = .ok (.getfield 63, 3) := by decide +kernel
theorem d_X4_build_28 : decode cX4_build 28 = .ok (.getfield 66, 3) := by decide +kernel
theorem d_X4_build_31 : decode cX4_build 31 = .ok (.putfield 69, 3) := by decide +kernel
theorem d_X4_build_34 : decode cX4_build 34 = .ok (.iconst 0, 1) := by decide +kernel
theorem d_X4_build_35 : decode cX4_build 35 = .ok (.istore_n 2, 1) := by decide +kernel
theorem d_X4_build_36 : decode cX4_build 36 = .ok (.iload_n 2, 1) := by decide +kernel
theorem d_X4_build_37 : decode cX4_build 37 = .ok (.aload_n 0, 1) := by decide +kernel
theorem d_X4_build_38 : decode cX4_build 38 = .ok (.getfield 69, 3) := by decide +kernel
theorem d_X4_build_41 : decode cX4_build 41 = .ok (.if_icmp .ge 59, 3) := by decide +kernel
theorem d_X4_build_44 : decode cX4_build 44 = .ok (.aload_n 1, 1) := by decide +kernel
theorem d_X4_build_45 : decode cX4_build 45 = .ok (.getfield 63, 3) := by decide +kernel
theorem d_X4_build_48 : decode cX4_build 48 = .ok (.getfield 72, 3) := by decide +kernel
theorem d_X4_build_51 : decode cX4_build 51 = .ok (.iload_n 2, 1) := by decide +kernel
theorem d_X4_build_52 : decode cX4_build 52 = .ok (.iaload, 1) := by decide +kernel
theorem d_X4_build_53 : decode cX4_build 53 = .ok (.istore_n 3, 1) := by decide +kernel
theorem d_X4_build_54 : decode cX4_build 54 = .ok (.aload_n 0, 1) := by decide +kernel
theorem d_X4_build_55 : decode cX4_build 55 = .ok (.getfield 21, 3) := by decide +kernel
theorem d_X4_build_58 : decode cX4_build 58 = .ok (.getfield 75, 3) := by decide +kernel
theorem d_X4_build_61 : decode cX4_build 61 = .ok (.iload_n 2, 1) := by decide +kernel
theorem d_X4_build_62 : decode cX4_build 62 = .ok (.aload_n 0, 1) := by decide +kernel
theorem d_X4_build_63 : decode cX4_build 63 = .ok (.aload_n 1, 1) := by decide +kernel
theorem d_X4_build_64 : decode cX4_build 64 = .ok (.iload_n 3, 1) := by decide +kernel
theorem d_X4_build_65 : decode cX4_build 65 = .ok (.invokestatic 78, 3) := by decide +kernel
theorem d_X4_build_68 : decode cX4_build 68 = .ok (.invokevirtual 82, 3) := by decide +kernel
theorem d_X4_build_71 : decode cX4_build 71 = .ok (.iastore, 1) := by decide +kernel
theorem d_X4_build_72 : decode cX4_build 72 = .ok (.aload_n 0, 1) := by decide +kernel
theorem d_X4_build_73 : decode cX4_build 73 = .ok (.getfield 25, 3) := by decide +kernel
theorem d_X4_build_76 : decode cX4_build 76 = .ok (.getfield 75, 3) := by decide +kernel
theorem d_X4_build_79 : decode cX4_build 79 = .ok (.iload_n 2, 1) := by decide +kernel
theorem d_X4_build_80 : decode cX4_build 80 = .ok (.aload_n 0, 1) := by decide +kernel
theorem d_X4_build_81 : decode cX4_build 81 = .ok (.aload_n 1, 1) := by decide +kernel
theorem d_X4_build_82 : decode cX4_build 82 = .ok (.iload_n 3, 1) := by decide +kernel
theorem d_X4_build_83 : decode cX4_build 83 = .ok (.aload_n 1, 1) := by decide +kernel
theorem d_X4_build_84 : decode cX4_build 84 = .ok (.getfield 56, 3) := by decide +kernel
theorem d_X4_build_87 : decode cX4_build 87 = .ok (.invokestatic 86, 3) := by decide +kernel
theorem d_X4_build_90 : decode cX4_build 90 = .ok (.invokevirtual 82, 3) := by decide +kernel
theorem d_X4_build_93 : decode cX4_build 93 = .ok (.iastore, 1) := by decide +kernel
theorem d_X4_build_94 : decode cX4_build 94 = .ok (.iinc 2 1, 3) := by decide +kernel
theorem d_X4_build_97 : decode cX4_build 97 = .ok (.goto (-61), 3) := by decide +kernel
theorem d_X4_build_100 : decode cX4_build 100 = .ok (.aload_n 0, 1) := by decide +kernel
theorem d_X4_build_101 : decode cX4_build 101 = .ok (.getfield 21, 3) := by decide +kernel
theorem d_X4_build_104 : decode cX4_build 104 = .ok (.aload_n 0, 1) := by decide +kernel
theorem d_X4_build_105 : decode cX4_build 105 = .ok (.getfield 69, 3) := by decide +kernel
theorem d_X4_build_108 : decode cX4_build 108 = .ok (.aload_n 0, 1) := by decide +kernel
theorem d_X4_build_109 : decode cX4_build 109 = .ok (.getfield 12, 3) := by decide +kernel
theorem d_X4_build_112 : decode cX4_build 112 = .ok (.getfield 66, 3) := by decide +kernel
theorem d_X4_build_115 : decode cX4_build 115 = .ok (.invokevirtual 90, 3) := by decide +kernel
theorem d_X4_build_118 : decode cX4_build 118 = .ok (.aload_n 0, 1) := by decide +kernel
theorem d_X4_build_119 : decode cX4_build 119 = .ok (.getfield 25, 3) := by decide +kernel
theorem d_X4_build_122 : decode cX4_build 122 = .ok (.aload_n 0, 1) := by decide +kernel
theorem d_X4_build_123 : decode cX4_build 123 = .ok (.getfield 69, 3) := by decide +kernel
theorem d_X4_build_126 : decode cX4_build 126 = .ok (.aload_n 0, 1) := by decide +kernel
theorem d_X4_build_127 : decode cX4_build 127 = .ok (.getfield 12, 3) := by decide +kernel
theorem d_X4_build_130 : decode cX4_build 130 = .ok (.getfield 66, 3) := by decide +kernel
theorem d_X4_build_133 : decode cX4_build 133 = .ok (.invokevirtual 90, 3) := by decide +kernel
theorem d_X4_build_136 : decode cX4_build 136 = .ok (.aload_n 0, 1) := by decide +kernel
theorem d_X4_build_137 : decode cX4_build 137 = .ok (.invokevirtual 94, 3) := by decide +kernel
theorem d_X4_build_140 : decode cX4_build 140 = .ok (.return_, 1) := by decide +kernel
def f_X4_build_36b (F : Nat) (kb36 : Int32 → sm_M → Option (sm_M)) (x2 : Int32) (M : sm_M) : Option (sm_M) := if (M.1 5 10) ≤ x2 then ((f_X3_group F 9 (M.1 5 10) (M.1 6 2) M).bind fun q2 => (f_X3_group F 13 (q2.1 5 10) (q2.1 6 2) q2).bind fun q3 => (f_X4_buildCircuit F q3).bind fun q4 => some q4) else (sm_g (sm_ib x2 200) ((f_X1_withoutLast F (M.1 3 x2.toNatClampNeg) M).bind fun q6 => (f_X4_vertexOf F q6 M).bind fun q7 => sm_g (sm_ib x2 200) ((f_X1_withoutFirst F (M.1 3 x2.toNatClampNeg) (((sm_mi M 10 x2.toNatClampNeg q7)).1 1 2) (sm_mi M 10 x2.toNatClampNeg q7)).bind fun q9 => (f_X4_vertexOf F q9 (sm_mi M 10 x2.toNatClampNeg q7)).bind fun q10 => sm_g (sm_ib x2 200) (kb36 (x2 + 1) ((sm_mi (sm_mi M 10 x2.toNatClampNeg q7) 14 x2.toNatClampNeg q10))))))
set_option maxRecDepth 100000 in
set_option maxHeartbeats 4000000 in
theorem j_X4_build_36b {sk : List sm_Sh} (hx : sm_ext skX sk) (F : Nat) (kb36 : Int32 → sm_M → Option (sm_M)) (hkb36 : ∀ (x2 : Int32) (M : sm_M) (r : sm_M), kb36 x2 M = some r → sm_J (md_X4_build, 4, sk, .inl none, r) 36 [some (.ref 5), some (.ref 1), some (.int x2), none] [] M) : ∀ (x2 : Int32) (M : sm_M) (r : sm_M), f_X4_build_36b F kb36 x2 M = some r → sm_J (md_X4_build, 4, sk, .inl none, r) 36 [some (.ref 5), some (.ref 1), some (.int x2), none] [] M := by
  intro x2  M r h
  unfold f_X4_build_36b at h
  refine sm_iload_n (q := 37) d_X4_build_36 rfl rfl ?_
  refine sm_aload_n (q := 38) d_X4_build_37 rfl rfl ?_
  refine sm_geti (q := 41) d_X4_build_38 rfl fl_X4_69 (hx sx_5) rfl ?_
  refine sm_icmp_ge (q := 44) (t := 100) d_X4_build_41 rfl rfl (fun c1 => ?_) (fun c1 => ?_)
  · replace h := sm_it c1 h
    refine sm_aload_n (q := 101) d_X4_build_100 rfl rfl ?_
    refine sm_getr (q := 104) d_X4_build_101 rfl fl_X4_21 (hx sx_5) rfl ?_
    refine sm_aload_n (q := 105) d_X4_build_104 rfl rfl ?_
    refine sm_geti (q := 108) d_X4_build_105 rfl fl_X4_69 (hx sx_5) rfl ?_
    refine sm_aload_n (q := 109) d_X4_build_108 rfl rfl ?_
    refine sm_getr (q := 112) d_X4_build_109 rfl fl_X4_12 (hx sx_5) rfl ?_
    refine sm_geti (q := 115) d_X4_build_112 rfl fl_X4_66 (hx sx_6) rfl ?_
    obtain ⟨q2, e2, h⟩ := sm_bd h
    refine sm_callV (q := 118) (d' := 1) [] [.int (M.1 5 10), .int (M.1 6 2)] d_X4_build_115 rfl lk_X4_90 (hx sx_9) rfl rfl rfl (Nat.le_of_ble_eq_true rfl) (Nat.le_of_ble_eq_true rfl) (c_X3_group hx F 9 ⟨hx sx_9, hx sx_10, hx sx_11, hx sx_12⟩ (M.1 5 10) (M.1 6 2) M _ e2) (st9 := []) rfl ?_
    refine sm_aload_n (q := 119) d_X4_build_118 rfl rfl ?_
    refine sm_getr (q := 122) d_X4_build_119 rfl fl_X4_25 (hx sx_5) rfl ?_
    refine sm_aload_n (q := 123) d_X4_build_122 rfl rfl ?_
    refine sm_geti (q := 126) d_X4_build_123 rfl fl_X4_69 (hx sx_5) rfl ?_
    refine sm_aload_n (q := 127) d_X4_build_126 rfl rfl ?_
    refine sm_getr (q := 130) d_X4_build_127 rfl fl_X4_12 (hx sx_5) rfl ?_
    refine sm_geti (q := 133) d_X4_build_130 rfl fl_X4_66 (hx sx_6) rfl ?_
    obtain ⟨q3, e3, h⟩ := sm_bd h
    refine sm_callV (q := 136) (d' := 1) [] [.int (q2.1 5 10), .int (q2.1 6 2)] d_X4_build_133 rfl lk_X4_90 (hx sx_13) rfl rfl rfl (Nat.le_of_ble_eq_true rfl) (Nat.le_of_ble_eq_true rfl) (c_X3_group hx F 13 ⟨hx sx_13, hx sx_14, hx sx_15, hx sx_16⟩ (q2.1 5 10) (q2.1 6 2) q2 _ e3) (st9 := []) rfl ?_
    refine sm_aload_n (q := 137) d_X4_build_136 rfl rfl ?_
    obtain ⟨q4, e4, h⟩ := sm_bd h
    refine sm_callV (q := 140) (d' := 1) [] [] d_X4_build_137 rfl lk_X4_94 (hx sx_5) rfl rfl rfl (Nat.le_of_ble_eq_true rfl) (Nat.le_of_ble_eq_true rfl) (c_X4_buildCircuit hx F q3 _ e4) (st9 := []) rfl ?_
    obtain rfl := Option.some.inj h
    exact sm_vret d_X4_build_140 rfl rfl rfl
  · replace h := sm_if c1 h
    refine sm_aload_n (q := 45) d_X4_build_44 rfl rfl ?_
    refine sm_getr (q := 48) d_X4_build_45 rfl fl_X4_63 (hx sx_1) rfl ?_
    refine sm_getr (q := 51) d_X4_build_48 rfl fl_X4_72 (hx sx_2) rfl ?_
    refine sm_iload_n (q := 52) d_X4_build_51 rfl rfl ?_
    obtain ⟨g5, h⟩ := sm_gt h
    refine sm_iaload (q := 53) d_X4_build_52 rfl (hx sx_3) (sm_ib_of g5) ?_
    refine sm_istore_n (q := 54) (lt := [some (.ref 5), some (.ref 1), some (.int x2), some (.int (M.1 3 x2.toNatClampNeg))]) d_X4_build_53 rfl (Nat.le_of_ble_eq_true rfl) rfl rfl ?_
    refine sm_aload_n (q := 55) d_X4_build_54 rfl rfl ?_
    refine sm_getr (q := 58) d_X4_build_55 rfl fl_X4_21 (hx sx_5) rfl ?_
    refine sm_getr (q := 61) d_X4_build_58 rfl fl_X4_75 (hx sx_9) rfl ?_
    refine sm_iload_n (q := 62) d_X4_build_61 rfl rfl ?_
    refine sm_aload_n (q := 63) d_X4_build_62 rfl rfl ?_
    refine sm_aload_n (q := 64) d_X4_build_63 rfl rfl ?_
    refine sm_iload_n (q := 65) d_X4_build_64 rfl rfl ?_
    obtain ⟨q6, e6, h⟩ := sm_bd h
    refine sm_callS (q := 68) (d' := 0) [.ref 1, .ref 5, .int x2, .ref 10] [.int (M.1 3 x2.toNatClampNeg)] d_X4_build_65 rfl lk_X4_78 rfl (Nat.le_of_ble_eq_true rfl) (Nat.le_of_ble_eq_true rfl) (c_X1_withoutLast hx F (M.1 3 x2.toNatClampNeg) M _ e6) (st9 := [.int q6, .ref 1, .ref 5, .int x2, .ref 10]) rfl ?_
    obtain ⟨q7, e7, h⟩ := sm_bd h
    refine sm_callV (q := 71) (d' := 2) [.int x2, .ref 10] [.ref 1, .int q6] d_X4_build_68 rfl lk_X4_82 (hx sx_5) rfl rfl rfl (Nat.le_of_ble_eq_true rfl) (Nat.le_of_ble_eq_true rfl) (c_X4_vertexOf hx F q6 M _ e7) (st9 := [.int q7, .int x2, .ref 10]) rfl ?_
    obtain ⟨g8, h⟩ := sm_gt h
    refine sm_iastore (q := 72) d_X4_build_71 rfl (hx sx_10) (sm_ib_of g8) ?_
    refine sm_aload_n (q := 73) d_X4_build_72 rfl rfl ?_
    refine sm_getr (q := 76) d_X4_build_73 rfl fl_X4_25 (hx sx_5) rfl ?_
    refine sm_getr (q := 79) d_X4_build_76 rfl fl_X4_75 (hx sx_13) rfl ?_
    refine sm_iload_n (q := 80) d_X4_build_79 rfl rfl ?_
    refine sm_aload_n (q := 81) d_X4_build_80 rfl rfl ?_
    refine sm_aload_n (q := 82) d_X4_build_81 rfl rfl ?_
    refine sm_iload_n (q := 83) d_X4_build_82 rfl rfl ?_
    refine sm_aload_n (q := 84) d_X4_build_83 rfl rfl ?_
    refine sm_geti (q := 87) d_X4_build_84 rfl fl_X4_56 (hx sx_1) rfl ?_
    obtain ⟨q9, e9, h⟩ := sm_bd h
    refine sm_callS (q := 90) (d' := 0) [.ref 1, .ref 5, .int x2, .ref 14] [.int (M.1 3 x2.toNatClampNeg), .int (((sm_mi M 10 x2.toNatClampNeg q7)).1 1 2)] d_X4_build_87 rfl lk_X4_86 rfl (Nat.le_of_ble_eq_true rfl) (Nat.le_of_ble_eq_true rfl) (c_X1_withoutFirst hx F (M.1 3 x2.toNatClampNeg) (((sm_mi M 10 x2.toNatClampNeg q7)).1 1 2) (sm_mi M 10 x2.toNatClampNeg q7) _ e9) (st9 := [.int q9, .ref 1, .ref 5, .int x2, .ref 14]) rfl ?_
    obtain ⟨q10, e10, h⟩ := sm_bd h
    refine sm_callV (q := 93) (d' := 2) [.int x2, .ref 14] [.ref 1, .int q9] d_X4_build_90 rfl lk_X4_82 (hx sx_5) rfl rfl rfl (Nat.le_of_ble_eq_true rfl) (Nat.le_of_ble_eq_true rfl) (c_X4_vertexOf hx F q9 (sm_mi M 10 x2.toNatClampNeg q7) _ e10) (st9 := [.int q10, .int x2, .ref 14]) rfl ?_
    obtain ⟨g11, h⟩ := sm_gt h
    refine sm_iastore (q := 94) d_X4_build_93 rfl (hx sx_14) (sm_ib_of g11) ?_
    refine sm_iinc (q := 97) (v := (x2 + 1)) (lt := [some (.ref 5), some (.ref 1), some (.int (x2 + 1)), some (.int (M.1 3 x2.toNatClampNeg))]) d_X4_build_94 rfl rfl (ii_1 _) (Nat.le_of_ble_eq_true rfl) rfl rfl ?_
    refine sm_goto (t := 36) d_X4_build_97 rfl ?_
    refine sm_fg [3] ?_
    exact hkb36 (x2 + 1) ((sm_mi (sm_mi M 10 x2.toNatClampNeg q7) 14 x2.toNatClampNeg q10)) _ h
def f_X4_build_36 (F : Nat) (n : Nat) : Int32 → sm_M → Option (sm_M) := match n with
 | 0 => fun _ _ => none
 | n + 1 => f_X4_build_36b F (f_X4_build_36 F n)
theorem j_X4_build_36 {sk : List sm_Sh} (hx : sm_ext skX sk) (F : Nat) : ∀ (n : Nat) (x2 : Int32) (M : sm_M) (r : sm_M), f_X4_build_36 F n x2 M = some r → sm_J (md_X4_build, 4, sk, .inl none, r) 36 [some (.ref 5), some (.ref 1), some (.int x2), none] [] M := by
  intro n
  induction n with
  | zero => intro x2  M r h; exact nomatch (show (none : Option (sm_M)) = some r from h)
  | succ n ih => exact j_X4_build_36b hx F (f_X4_build_36 F n) ih
def f_X4_build (F : Nat) (M : sm_M) : Option (sm_M) := if (M.1 1 1) = (3 : Int32) then (some M) else ((f_X2_fillCodes F 6 ((M.1 1 2) - (1 : Int32)) M).bind fun q2 => f_X4_build_36 F F (0 : Int32) ((sm_mi q2 5 10 (q2.1 2 2))))
set_option maxRecDepth 100000 in
set_option maxHeartbeats 4000000 in
theorem j_X4_build {sk : List sm_Sh} (hx : sm_ext skX sk) (F : Nat) : ∀ (M : sm_M) (r : sm_M), f_X4_build F M = some r → sm_J (md_X4_build, 4, sk, .inl none, r) 0 [some (.ref 5), some (.ref 1), none, none] [] M := by
  intro   M r h
  unfold f_X4_build at h
  refine sm_aload_n (q := 1) d_X4_build_0 rfl rfl ?_
  refine sm_geti (q := 4) d_X4_build_1 rfl fl_X4_50 (hx sx_1) rfl ?_
  refine sm_iconst (q := 5) d_X4_build_4 rfl ci_3 ?_
  refine sm_icmp_ne (q := 8) (t := 9) d_X4_build_5 rfl rfl (fun c1 => ?_) (fun c1 => ?_)
  · replace h := sm_if c1 h
    refine sm_aload_n (q := 10) d_X4_build_9 rfl rfl ?_
    refine sm_aload_n (q := 11) d_X4_build_10 rfl rfl ?_
    refine sm_getr (q := 14) d_X4_build_11 rfl fl_X4_12 (hx sx_5) rfl ?_
    refine sm_aload_n (q := 15) d_X4_build_14 rfl rfl ?_
    refine sm_geti (q := 18) d_X4_build_15 rfl fl_X4_56 (hx sx_1) rfl ?_
    refine sm_iconst (q := 19) d_X4_build_18 rfl ci_1 ?_
    refine sm_isub (q := 20) d_X4_build_19 rfl ?_
    obtain ⟨q2, e2, h⟩ := sm_bd h
    refine sm_callV (q := 23) (d' := 3) [] [.ref 6, .int ((M.1 1 2) - (1 : Int32))] d_X4_build_20 rfl lk_X4_59 (hx sx_1) rfl rfl rfl (Nat.le_of_ble_eq_true rfl) (Nat.le_of_ble_eq_true rfl) (c_X2_fillCodes hx F 6 ⟨hx sx_6, hx sx_7, hx sx_8⟩ ((M.1 1 2) - (1 : Int32)) M _ e2) (st9 := []) rfl ?_
    refine sm_aload_n (q := 24) d_X4_build_23 rfl rfl ?_
    refine sm_aload_n (q := 25) d_X4_build_24 rfl rfl ?_
    refine sm_getr (q := 28) d_X4_build_25 rfl fl_X4_63 (hx sx_1) rfl ?_
    refine sm_geti (q := 31) d_X4_build_28 rfl fl_X4_66 (hx sx_2) rfl ?_
    refine sm_puti (q := 34) d_X4_build_31 rfl fw_X4_69 (hx sx_5) rfl rfl rfl ?_
    refine sm_iconst (q := 35) d_X4_build_34 rfl ci_0 ?_
    refine sm_istore_n (q := 36) (lt := [some (.ref 5), some (.ref 1), some (.int (0 : Int32)), none]) d_X4_build_35 rfl (Nat.le_of_ble_eq_true rfl) rfl rfl ?_
    exact j_X4_build_36 hx F F (0 : Int32) ((sm_mi q2 5 10 (q2.1 2 2))) _ h
  · replace h := sm_it c1 h
    obtain rfl := Option.some.inj h
    exact sm_vret d_X4_build_8 rfl rfl rfl
theorem c_X4_build {sk : List sm_Sh} (hx : sm_ext skX sk) (F : Nat) (M : sm_M) (r : sm_M) (h : f_X4_build F M = some r) : sm_Ct yX4_build md_X4_build 4 sk [.ref 5, .ref 1] M (.inl none) r := sm_enter 2 pn_X4 rfl (Nat.le_of_ble_eq_true rfl) rfl (j_X4_build hx F M r h)
/-! UniversalCycles$Fan.degree(I)I -/
theorem d_X3_degree_0 : decode cX3_degree 0 = .ok (.aload_n 0, 1) := by decide +kernel
theorem d_X3_degree_1 : decode cX3_degree 1 = .ok (.getfield 18, 3) := by decide +kernel
theorem d_X3_degree_4 : decode cX3_degree 4 = .ok (.iload_n 1, 1) := by decide +kernel
theorem d_X3_degree_5 : decode cX3_degree 5 = .ok (.iconst 1, 1) := by decide +kernel
theorem d_X3_degree_6 : decode cX3_degree 6 = .ok (.iadd, 1) := by decide +kernel
theorem d_X3_degree_7 : decode cX3_degree 7 = .ok (.iaload, 1) := by decide +kernel
theorem d_X3_degree_8 : decode cX3_degree 8 = .ok (.aload_n 0, 1) := by decide +kernel
theorem d_X3_degree_9 : decode cX3_degree 9 = .ok (.getfield 18, 3) := by decide +kernel
theorem d_X3_degree_12 : decode cX3_degree 12 = .ok (.iload_n 1, 1) := by decide +kernel
theorem d_X3_degree_13 : decode cX3_degree 13 = .ok (.iaload, 1) := by decide +kernel
theorem d_X3_degree_14 : decode cX3_degree 14 = .ok (.isub, 1) := by decide +kernel
theorem d_X3_degree_15 : decode cX3_degree 15 = .ok (.ireturn, 1) := by decide +kernel
def f_X3_degree (F : Nat) (a0 : Nat) (x1 : Int32) (M : sm_M) : Option (Int32) := sm_g (sm_ib (x1 + (1 : Int32)) 201) (sm_g (sm_ib x1 201) (some ((M.1 (a0 + 3) (x1 + (1 : Int32)).toNatClampNeg) - (M.1 (a0 + 3) x1.toNatClampNeg))))
set_option maxRecDepth 100000 in
set_option maxHeartbeats 4000000 in
theorem j_X3_degree {sk : List sm_Sh} (hx : sm_ext skX sk) (F : Nat) (a0 : Nat) (ha0 : sm_fan sk a0) : ∀ (x1 : Int32) (M : sm_M) (r : Int32), f_X3_degree F a0 x1 M = some r → sm_J (md_X3_degree, 0, sk, .inl (some (.int r)), M) 0 [some (.ref a0), some (.int x1)] [] M := by
  intro x1  M r h
  unfold f_X3_degree at h
  refine sm_aload_n (q := 1) d_X3_degree_0 rfl rfl ?_
  refine sm_getr (q := 4) d_X3_degree_1 rfl fl_X3_18 ha0.1 rfl ?_
  refine sm_iload_n (q := 5) d_X3_degree_4 rfl rfl ?_
  refine sm_iconst (q := 6) d_X3_degree_5 rfl ci_1 ?_
  refine sm_iadd (q := 7) d_X3_degree_6 rfl ?_
  obtain ⟨g1, h⟩ := sm_gt h
  refine sm_iaload (q := 8) d_X3_degree_7 rfl ha0.2.2.2 (sm_ib_of g1) ?_
  refine sm_aload_n (q := 9) d_X3_degree_8 rfl rfl ?_
  refine sm_getr (q := 12) d_X3_degree_9 rfl fl_X3_18 ha0.1 rfl ?_
  refine sm_iload_n (q := 13) d_X3_degree_12 rfl rfl ?_
  obtain ⟨g2, h⟩ := sm_gt h
  refine sm_iaload (q := 14) d_X3_degree_13 rfl ha0.2.2.2 (sm_ib_of g2) ?_
  refine sm_isub (q := 15) d_X3_degree_14 rfl ?_
  obtain rfl := Option.some.inj h
  exact sm_iret d_X3_degree_15 rfl rfl rfl rfl
theorem c_X3_degree {sk : List sm_Sh} (hx : sm_ext skX sk) (F : Nat) (a0 : Nat) (ha0 : sm_fan sk a0) (x1 : Int32) (M : sm_M) (r : Int32) (h : f_X3_degree F a0 x1 M = some r) : sm_Ct yX3_degree md_X3_degree 0 sk [.ref a0, .int x1] M (.inl (some (.int r))) M := sm_enter 0 pn_X3 rfl (Nat.le_of_ble_eq_true rfl) rfl (j_X3_degree hx F a0 ha0 x1 M r h)
/-! UniversalCycles$Graph.spread(ILUniversalCycles$Fan;LUniversalCycles$Fan;[I)V -/
theorem d_X4_spread_0 : decode cX4_spread 0 = .ok (.aload 4, 2) := by decide +kernel
theorem d_X4_spread_2 : decode cX4_spread 2 = .ok (.iconst (-1), 1) := by decide +kernel
theorem d_X4_spread_3 : decode cX4_spread 3 = .ok (.invokestatic 128, 3) := by decide +kernel
theorem d_X4_spread_6 : decode cX4_spread 6 = .ok (.aload 4, 2) := by decide +kernel
theorem d_X4_spread_8 : decode cX4_spread 8 = .ok (.iload_n 1, 1) := by decide +kernel
theorem d_X4_spread_9 : decode cX4_spread 9 = .ok (.iconst 0, 1) := by decide +kernel
theorem d_X4_spread_10 : decode cX4_spread 10 = .ok (.iastore, 1) := by decide +kernel
theorem d_X4_spread_11 : decode cX4_spread 11 = .ok (.aload_n 0, 1) := by decide +kernel
theorem d_X4_spread_12 : decode cX4_spread 12 = .ok (.getfield 41, 3) := by decide +kernel
theorem d_X4_spread_15 : decode cX4_spread 15 = .ok (.iconst 0, 1) := by decide +kernel
theorem d_X4_spread_16 : decode cX4_spread 16 = .ok (.iload_n 1, 1) := by decide +kernel
theorem d_X4_spread_17 : decode cX4_spread 17 = .ok (.iastore, 1) := by decide +kernel
theorem d_X4_spread_18 : decode cX4_spread 18 = .ok (.iconst 1, 1) := by decide +kernel
theorem d_X4_spread_19 : decode cX4_spread 19 = .ok (.istore 5, 2) := by decide +kernel
theorem d_X4_spread_21 : decode cX4_spread 21 = .ok (.iconst 0, 1) := by decide +kernel
theorem d_X4_spread_22 : decode cX4_spread 22 = .ok (.istore 6, 2) := by decide +kernel
theorem d_X4_spread_24 : decode cX4_spread 24 = .ok (.iload 6, 2) := by decide +kernel
theorem d_X4_spread_26 : decode cX4_spread 26 = .ok (.iload 5, 2) := by decide +kernel
theorem d_X4_spread_28 : decode cX4_spread 28 = .ok (.if_icmp .ge 106, 3) := by decide +kernel
theorem d_X4_spread_31 : decode cX4_spread 31 = .ok (.iload 6, 2) := by decide +kernel
theorem d_X4_spread_33 : decode cX4_spread 33 = .ok (.aload_n 0, 1) := by decide +kernel
theorem d_X4_spread_34 : decode cX4_spread 34 = .ok (.getfield 12, 3) := by decide +kernel
theorem d_X4_spread_37 : decode cX4_spread 37 = .ok (.getfield 66, 3) := by decide +kernel
theorem d_X4_spread_40 : decode cX4_spread 40 = .ok (.if_icmp .ge 94, 3) := by decide +kernel
theorem d_X4_spread_43 : decode cX4_spread 43 = .ok (.aload_n 0, 1) := by decide +kernel
theorem d_X4_spread_44 : decode cX4_spread 44 = .ok (.getfield 41, 3) := by decide +kernel
theorem d_X4_spread_47 : decode cX4_spread 47 = .ok (.iload 6, 2) := by decide +kernel
theorem d_X4_spread_49 : decode cX4_spread 49 = .ok (.iaload, 1) := by decide +kernel
theorem d_X4_spread_50 : decode cX4_spread 50 = .ok (.istore 7, 2) := by decide +kernel
theorem d_X4_spread_52 : decode cX4_spread 52 = .ok (.aload_n 2, 1) := by decide +kernel
theorem d_X4_spread_53 : decode cX4_spread 53 = .ok (.getfield 108, 3) := by decide +kernel
theorem d_X4_spread_56 : decode cX4_spread 56 = .ok (.iload 7, 2) := by decide +kernel
theorem d_X4_spread_58 : decode cX4_spread 58 = .ok (.iaload, 1) := by decide +kernel
theorem d_X4_spread_59 : decode cX4_spread 59 = .ok (.istore 8, 2) := by decide +kernel
theorem d_X4_spread_61 : decode cX4_spread 61 = .ok (.iload 8, 2) := by decide +kernel
theorem d_X4_spread_63 : decode cX4_spread 63 = .ok (.aload_n 2, 1) := by decide +kernel
theorem d_X4_spread_64 : decode cX4_spread 64 = .ok (.getfield 108, 3) := by decide +kernel
theorem d_X4_spread_67 : decode cX4_spread 67 = .ok (.iload 7, 2) := by decide +kernel
theorem d_X4_spread_69 : decode cX4_spread 69 = .ok (.iconst 1, 1) := by decide +kernel
theorem d_X4_spread_70 : decode cX4_spread 70 = .ok (.iadd, 1) := by decide +kernel
theorem d_X4_spread_71 : decode cX4_spread 71 = .ok (.iaload, 1) := by decide +kernel
theorem d_X4_spread_72 : decode cX4_spread 72 = .ok (.if_icmp .ge 56, 3) := by decide +kernel
theorem d_X4_spread_75 : decode cX4_spread 75 = .ok (.aload_n 3, 1) := by decide +kernel
theorem d_X4_spread_76 : decode cX4_spread 76 = .ok (.getfield 75, 3) := by decide +kernel
theorem d_X4_spread_79 : decode cX4_spread 79 = .ok (.aload_n 2, 1) := by decide +kernel
theorem d_X4_spread_80 : decode cX4_spread 80 = .ok (.getfield 117, 3) := by decide +kernel
theorem d_X4_spread_83 : decode cX4_spread 83 = .ok (.iload 8, 2) := by decide +kernel
theorem d_X4_spread_85 : decode cX4_spread 85 = .ok (.iaload, 1) := by decide +kernel
theorem d_X4_spread_86 : decode cX4_spread 86 = .ok (.iaload, 1) := by decide +kernel
theorem d_X4_spread_87 : decode cX4_spread 87 = .ok (.istore 9, 2) := by decide +kernel
theorem d_X4_spread_89 : decode cX4_spread 89 = .ok (.aload 4, 2) := by decide +kernel
theorem d_X4_spread_91 : decode cX4_spread 91 = .ok (.iload 9, 2) := by decide +kernel
theorem d_X4_spread_93 : decode cX4_spread 93 = .ok (.iaload, 1) := by decide +kernel
theorem d_X4_spread_94 : decode cX4_spread 94 = .ok (.iconst (-1), 1) := by decide +kernel
theorem d_X4_spread_95 : decode cX4_spread 95 = .ok (.if_icmp .ne 27, 3) := by decide +kernel
theorem d_X4_spread_98 : decode cX4_spread 98 = .ok (.aload 4, 2) := by decide +kernel
theorem d_X4_spread_100 : decode cX4_spread 100 = .ok (.iload 9, 2) := by decide +kernel
theorem d_X4_spread_102 : decode cX4_spread 102 = .ok (.aload 4, 2) := by decide +kernel
theorem d_X4_spread_104 : decode cX4_spread 104 = .ok (.iload 7, 2) := by decide +kernel
theorem d_X4_spread_106 : decode cX4_spread 106 = .ok (.iaload, 1) := by decide +kernel
theorem d_X4_spread_107 : decode cX4_spread 107 = .ok (.iconst 1, 1) := by decide +kernel
theorem d_X4_spread_108 : decode cX4_spread 108 = .ok (.iadd, 1) := by decide +kernel
theorem d_X4_spread_109 : decode cX4_spread 109 = .ok (.iastore, 1) := by decide +kernel
theorem d_X4_spread_110 : decode cX4_spread 110 = .ok (.aload_n 0, 1) := by decide +kernel
theorem d_X4_spread_111 : decode cX4_spread 111 = .ok (.getfield 41, 3) := by decide +kernel
theorem d_X4_spread_114 : decode cX4_spread 114 = .ok (.iload 5, 2) := by decide +kernel
theorem d_X4_spread_116 : decode cX4_spread 116 = .ok (.iload 9, 2) := by decide +kernel
theorem d_X4_spread_118 : decode cX4_spread 118 = .ok (.iastore, 1) := by decide +kernel
theorem d_X4_spread_119 : decode cX4_spread 119 = .ok (.iinc 5 1, 3) := by decide +kernel
theorem d_X4_spread_122 : decode cX4_spread 122 = .ok (.iinc 8 1, 3) := by decide +kernel
theorem d_X4_spread_125 : decode cX4_spread 125 = .ok (.goto (-64), 3) := by decide +kernel
theorem d_X4_spread_128 : decode cX4_spread 128 = .ok (.iinc 6 1, 3) := by decide +kernel
theorem d_X4_spread_131 : decode cX4_spread 131 = .ok (.goto (-107), 3) := by decide +kernel
theorem d_X4_spread_134 : decode cX4_spread 134 = .ok (.return_, 1) := by decide +kernel
def f_X4_spread_122 (F : Nat) (a2 : Nat) (a3 : Nat) (a4 n4 : Nat) (kb24 : Int32 → Int32 → sm_M → Option (sm_M)) (kb61 : Int32 → Int32 → Int32 → Int32 → sm_M → Option (sm_M)) (x5 : Int32) (x6 : Int32) (x7 : Int32) (x8 : Int32) (M : sm_M) : Option (sm_M) := kb61 x5 x6 x7 (x8 + 1) M
set_option maxRecDepth 100000 in
set_option maxHeartbeats 4000000 in
theorem j_X4_spread_122 {sk : List sm_Sh} (hx : sm_ext skX sk) (F : Nat) (a2 : Nat) (a3 : Nat) (a4 n4 : Nat) (ha2 : sm_fan sk a2) (ha3 : sm_fan sk a3) (ha4 : sm_ints sk a4 n4) (kb24 : Int32 → Int32 → sm_M → Option (sm_M)) (kb61 : Int32 → Int32 → Int32 → Int32 → sm_M → Option (sm_M)) (hkb24 : ∀ (x5 : Int32) (x6 : Int32) (M : sm_M) (r : sm_M), kb24 x5 x6 M = some r → sm_J (md_X4_spread, 1, sk, .inl none, r) 24 [some (.ref 5), none, some (.ref a2), some (.ref a3), some (.ref a4), some (.int x5), some (.int x6), none, none, none] [] M) (hkb61 : ∀ (x5 : Int32) (x6 : Int32) (x7 : Int32) (x8 : Int32) (M : sm_M) (r : sm_M), kb61 x5 x6 x7 x8 M = some r → sm_J (md_X4_spread, 1, sk, .inl none, r) 61 [some (.ref 5), none, some (.ref a2), some (.ref a3), some (.ref a4), some (.int x5), some (.int x6), some (.int x7), some (.int x8), none] [] M) : ∀ (x5 : Int32) (x6 : Int32) (x7 : Int32) (x8 : Int32) (M : sm_M) (r : sm_M), f_X4_spread_122 F a2 a3 a4 n4 kb24 kb61 x5 x6 x7 x8 M = some r → sm_J (md_X4_spread, 1, sk, .inl none, r) 122 [some (.ref 5), none, some (.ref a2), some (.ref a3), some (.ref a4), some (.int x5), some (.int x6), some (.int x7), some (.int x8), none] [] M := by
  intro x5 x6 x7 x8  M r h
  unfold f_X4_spread_122 at h
  refine sm_iinc (q := 125) (v := (x8 + 1)) (lt := [some (.ref 5), none, some (.ref a2), some (.ref a3), some (.ref a4), some (.int x5), some (.int x6), some (.int x7), some (.int (x8 + 1)), none]) d_X4_spread_122 rfl rfl (ii_1 _) (Nat.le_of_ble_eq_true rfl) rfl rfl ?_
  refine sm_goto (t := 61) d_X4_spread_125 rfl ?_
  exact hkb61 x5 x6 x7 (x8 + 1) M _ h
def f_X4_spread_61b (F : Nat) (a2 : Nat) (a3 : Nat) (a4 n4 : Nat) (kb24 : Int32 → Int32 → sm_M → Option (sm_M)) (kb61 : Int32 → Int32 → Int32 → Int32 → sm_M → Option (sm_M)) (x5 : Int32) (x6 : Int32) (x7 : Int32) (x8 : Int32) (M : sm_M) : Option (sm_M) := sm_g (sm_ib (x7 + (1 : Int32)) 201) (if (M.1 (a2 + 3) (x7 + (1 : Int32)).toNatClampNeg) ≤ x8 then (kb24 x5 (x6 + 1) M) else (sm_g (sm_ib x8 200) (sm_g (sm_ib (M.1 (a2 + 2) x8.toNatClampNeg) 200) (sm_g (sm_ib (M.1 (a3 + 1) (M.1 (a2 + 2) x8.toNatClampNeg).toNatClampNeg) n4) (if (M.1 a4 (M.1 (a3 + 1) (M.1 (a2 + 2) x8.toNatClampNeg).toNatClampNeg).toNatClampNeg) = (-1 : Int32) then (sm_g (sm_ib x7 n4) (sm_g (sm_ib (M.1 (a3 + 1) (M.1 (a2 + 2) x8.toNatClampNeg).toNatClampNeg) n4) (sm_g (sm_ib x5 200) (f_X4_spread_122 F a2 a3 a4 n4 kb24 kb61 (x5 + 1) x6 x7 x8 ((sm_mi (sm_mi M a4 (M.1 (a3 + 1) (M.1 (a2 + 2) x8.toNatClampNeg).toNatClampNeg).toNatClampNeg ((M.1 a4 x7.toNatClampNeg) + (1 : Int32))) 21 x5.toNatClampNeg (M.1 (a3 + 1) (M.1 (a2 + 2) x8.toNatClampNeg).toNatClampNeg))))))) else (f_X4_spread_122 F a2 a3 a4 n4 kb24 kb61 x5 x6 x7 x8 M))))))
set_option maxRecDepth 100000 in
set_option maxHeartbeats 4000000 in
theorem j_X4_spread_61b {sk : List sm_Sh} (hx : sm_ext skX sk) (F : Nat) (a2 : Nat) (a3 : Nat) (a4 n4 : Nat) (ha2 : sm_fan sk a2) (ha3 : sm_fan sk a3) (ha4 : sm_ints sk a4 n4) (kb24 : Int32 → Int32 → sm_M → Option (sm_M)) (kb61 : Int32 → Int32 → Int32 → Int32 → sm_M → Option (sm_M)) (hkb24 : ∀ (x5 : Int32) (x6 : Int32) (M : sm_M) (r : sm_M), kb24 x5 x6 M = some r → sm_J (md_X4_spread, 1, sk, .inl none, r) 24 [some (.ref 5), none, some (.ref a2), some (.ref a3), some (.ref a4), some (.int x5), some (.int x6), none, none, none] [] M) (hkb61 : ∀ (x5 : Int32) (x6 : Int32) (x7 : Int32) (x8 : Int32) (M : sm_M) (r : sm_M), kb61 x5 x6 x7 x8 M = some r → sm_J (md_X4_spread, 1, sk, .inl none, r) 61 [some (.ref 5), none, some (.ref a2), some (.ref a3), some (.ref a4), some (.int x5), some (.int x6), some (.int x7), some (.int x8), none] [] M) : ∀ (x5 : Int32) (x6 : Int32) (x7 : Int32) (x8 : Int32) (M : sm_M) (r : sm_M), f_X4_spread_61b F a2 a3 a4 n4 kb24 kb61 x5 x6 x7 x8 M = some r → sm_J (md_X4_spread, 1, sk, .inl none, r) 61 [some (.ref 5), none, some (.ref a2), some (.ref a3), some (.ref a4), some (.int x5), some (.int x6), some (.int x7), some (.int x8), none] [] M := by
  intro x5 x6 x7 x8  M r h
  unfold f_X4_spread_61b at h
  refine sm_iload (q := 63) d_X4_spread_61 rfl rfl ?_
  refine sm_aload_n (q := 64) d_X4_spread_63 rfl rfl ?_
  refine sm_getr (q := 67) d_X4_spread_64 rfl fl_X4_108 ha2.1 rfl ?_
  refine sm_iload (q := 69) d_X4_spread_67 rfl rfl ?_
  refine sm_iconst (q := 70) d_X4_spread_69 rfl ci_1 ?_
  refine sm_iadd (q := 71) d_X4_spread_70 rfl ?_
  obtain ⟨g1, h⟩ := sm_gt h
  refine sm_iaload (q := 72) d_X4_spread_71 rfl ha2.2.2.2 (sm_ib_of g1) ?_
  refine sm_icmp_ge (q := 75) (t := 128) d_X4_spread_72 rfl rfl (fun c2 => ?_) (fun c2 => ?_)
  · replace h := sm_it c2 h
    refine sm_iinc (q := 131) (v := (x6 + 1)) (lt := [some (.ref 5), none, some (.ref a2), some (.ref a3), some (.ref a4), some (.int x5), some (.int (x6 + 1)), some (.int x7), some (.int x8), none]) d_X4_spread_128 rfl rfl (ii_1 _) (Nat.le_of_ble_eq_true rfl) rfl rfl ?_
    refine sm_goto (t := 24) d_X4_spread_131 rfl ?_
    refine sm_fg [7, 8] ?_
    exact hkb24 x5 (x6 + 1) M _ h
  · replace h := sm_if c2 h
    refine sm_aload_n (q := 76) d_X4_spread_75 rfl rfl ?_
    refine sm_getr (q := 79) d_X4_spread_76 rfl fl_X4_75 ha3.1 rfl ?_
    refine sm_aload_n (q := 80) d_X4_spread_79 rfl rfl ?_
    refine sm_getr (q := 83) d_X4_spread_80 rfl fl_X4_117 ha2.1 rfl ?_
    refine sm_iload (q := 85) d_X4_spread_83 rfl rfl ?_
    obtain ⟨g3, h⟩ := sm_gt h
    refine sm_iaload (q := 86) d_X4_spread_85 rfl ha2.2.2.1 (sm_ib_of g3) ?_
    obtain ⟨g4, h⟩ := sm_gt h
    refine sm_iaload (q := 87) d_X4_spread_86 rfl ha3.2.1 (sm_ib_of g4) ?_
    refine sm_istore (q := 89) (lt := [some (.ref 5), none, some (.ref a2), some (.ref a3), some (.ref a4), some (.int x5), some (.int x6), some (.int x7), some (.int x8), some (.int (M.1 (a3 + 1) (M.1 (a2 + 2) x8.toNatClampNeg).toNatClampNeg))]) d_X4_spread_87 rfl (Nat.le_of_ble_eq_true rfl) rfl rfl ?_
    refine sm_aload (q := 91) d_X4_spread_89 rfl rfl ?_
    refine sm_iload (q := 93) d_X4_spread_91 rfl rfl ?_
    obtain ⟨g5, h⟩ := sm_gt h
    refine sm_iaload (q := 94) d_X4_spread_93 rfl ha4 (sm_ib_of g5) ?_
    refine sm_iconst (q := 95) d_X4_spread_94 rfl ci_m1 ?_
    refine sm_icmp_ne (q := 98) (t := 122) d_X4_spread_95 rfl rfl (fun c6 => ?_) (fun c6 => ?_)
    · replace h := sm_if c6 h
      refine sm_fg [9] ?_
      exact j_X4_spread_122 hx F a2 a3 a4 n4 ha2 ha3 ha4 kb24 kb61 hkb24 hkb61 x5 x6 x7 x8 M _ h
    · replace h := sm_it c6 h
      refine sm_aload (q := 100) d_X4_spread_98 rfl rfl ?_
      refine sm_iload (q := 102) d_X4_spread_100 rfl rfl ?_
      refine sm_aload (q := 104) d_X4_spread_102 rfl rfl ?_
      refine sm_iload (q := 106) d_X4_spread_104 rfl rfl ?_
      obtain ⟨g7, h⟩ := sm_gt h
      refine sm_iaload (q := 107) d_X4_spread_106 rfl ha4 (sm_ib_of g7) ?_
      refine sm_iconst (q := 108) d_X4_spread_107 rfl ci_1 ?_
      refine sm_iadd (q := 109) d_X4_spread_108 rfl ?_
      obtain ⟨g8, h⟩ := sm_gt h
      refine sm_iastore (q := 110) d_X4_spread_109 rfl ha4 (sm_ib_of g8) ?_
      refine sm_aload_n (q := 111) d_X4_spread_110 rfl rfl ?_
      refine sm_getr (q := 114) d_X4_spread_111 rfl fl_X4_41 (hx sx_5) rfl ?_
      refine sm_iload (q := 116) d_X4_spread_114 rfl rfl ?_
      refine sm_iload (q := 118) d_X4_spread_116 rfl rfl ?_
      obtain ⟨g9, h⟩ := sm_gt h
      refine sm_iastore (q := 119) d_X4_spread_118 rfl (hx sx_21) (sm_ib_of g9) ?_
      refine sm_iinc (q := 122) (v := (x5 + 1)) (lt := [some (.ref 5), none, some (.ref a2), some (.ref a3), some (.ref a4), some (.int (x5 + 1)), some (.int x6), some (.int x7), some (.int x8), some (.int (M.1 (a3 + 1) (M.1 (a2 + 2) x8.toNatClampNeg).toNatClampNeg))]) d_X4_spread_119 rfl rfl (ii_1 _) (Nat.le_of_ble_eq_true rfl) rfl rfl ?_
      refine sm_fg [9] ?_
      exact j_X4_spread_122 hx F a2 a3 a4 n4 ha2 ha3 ha4 kb24 kb61 hkb24 hkb61 (x5 + 1) x6 x7 x8 ((sm_mi (sm_mi M a4 (M.1 (a3 + 1) (M.1 (a2 + 2) x8.toNatClampNeg).toNatClampNeg).toNatClampNeg ((M.1 a4 x7.toNatClampNeg) + (1 : Int32))) 21 x5.toNatClampNeg (M.1 (a3 + 1) (M.1 (a2 + 2) x8.toNatClampNeg).toNatClampNeg))) _ h
def f_X4_spread_61 (F : Nat) (a2 : Nat) (a3 : Nat) (a4 n4 : Nat) (kb24 : Int32 → Int32 → sm_M → Option (sm_M)) (n : Nat) : Int32 → Int32 → Int32 → Int32 → sm_M → Option (sm_M) := match n with
 | 0 => fun _ _ _ _ _ => none
 | n + 1 => f_X4_spread_61b F a2 a3 a4 n4 kb24 (f_X4_spread_61 F a2 a3 a4 n4 kb24 n)
theorem j_X4_spread_61 {sk : List sm_Sh} (hx : sm_ext skX sk) (F : Nat) (a2 : Nat) (a3 : Nat) (a4 n4 : Nat) (ha2 : sm_fan sk a2) (ha3 : sm_fan sk a3) (ha4 : sm_ints sk a4 n4) (kb24 : Int32 → Int32 → sm_M → Option (sm_M)) (hkb24 : ∀ (x5 : Int32) (x6 : Int32) (M : sm_M) (r : sm_M), kb24 x5 x6 M = some r → sm_J (md_X4_spread, 1, sk, .inl none, r) 24 [some (.ref 5), none, some (.ref a2), some (.ref a3), some (.ref a4), some (.int x5), some (.int x6), none, none, none] [] M) : ∀ (n : Nat) (x5 : Int32) (x6 : Int32) (x7 : Int32) (x8 : Int32) (M : sm_M) (r : sm_M), f_X4_spread_61 F a2 a3 a4 n4 kb24 n x5 x6 x7 x8 M = some r → sm_J (md_X4_spread, 1, sk, .inl none, r) 61 [some (.ref 5), none, some (.ref a2), some (.ref a3), some (.ref a4), some (.int x5), some (.int x6), some (.int x7), some (.int x8), none] [] M := by
  intro n
  induction n with
  | zero => intro x5 x6 x7 x8  M r h; exact nomatch (show (none : Option (sm_M)) = some r from h)
  | succ n ih => exact j_X4_spread_61b hx F a2 a3 a4 n4 ha2 ha3 ha4 kb24 (f_X4_spread_61 F a2 a3 a4 n4 kb24 n) hkb24 ih
def f_X4_spread_134 (F : Nat) (a2 : Nat) (a3 : Nat) (a4 n4 : Nat) (M : sm_M) : Option (sm_M) := some M
set_option maxRecDepth 100000 in
set_option maxHeartbeats 4000000 in
theorem j_X4_spread_134 {sk : List sm_Sh} (hx : sm_ext skX sk) (F : Nat) (a2 : Nat) (a3 : Nat) (a4 n4 : Nat) (ha2 : sm_fan sk a2) (ha3 : sm_fan sk a3) (ha4 : sm_ints sk a4 n4) : ∀ (M : sm_M) (r : sm_M), f_X4_spread_134 F a2 a3 a4 n4 M = some r → sm_J (md_X4_spread, 1, sk, .inl none, r) 134 [none, none, none, none, none, none, none, none, none, none] [] M := by
  intro   M r h
  unfold f_X4_spread_134 at h
  obtain rfl := Option.some.inj h
  exact sm_vret d_X4_spread_134 rfl rfl rfl
def f_X4_spread_24b (F : Nat) (a2 : Nat) (a3 : Nat) (a4 n4 : Nat) (kb24 : Int32 → Int32 → sm_M → Option (sm_M)) (x5 : Int32) (x6 : Int32) (M : sm_M) : Option (sm_M) := if x5 ≤ x6 then (f_X4_spread_134 F a2 a3 a4 n4 M) else (if (M.1 6 2) ≤ x6 then (f_X4_spread_134 F a2 a3 a4 n4 M) else (sm_g (sm_ib x6 200) (sm_g (sm_ib (M.1 21 x6.toNatClampNeg) 201) (f_X4_spread_61 F a2 a3 a4 n4 kb24 F x5 x6 (M.1 21 x6.toNatClampNeg) (M.1 (a2 + 3) (M.1 21 x6.toNatClampNeg).toNatClampNeg) M))))
set_option maxRecDepth 100000 in
set_option maxHeartbeats 4000000 in
theorem j_X4_spread_24b {sk : List sm_Sh} (hx : sm_ext skX sk) (F : Nat) (a2 : Nat) (a3 : Nat) (a4 n4 : Nat) (ha2 : sm_fan sk a2) (ha3 : sm_fan sk a3) (ha4 : sm_ints sk a4 n4) (kb24 : Int32 → Int32 → sm_M → Option (sm_M)) (hkb24 : ∀ (x5 : Int32) (x6 : Int32) (M : sm_M) (r : sm_M), kb24 x5 x6 M = some r → sm_J (md_X4_spread, 1, sk, .inl none, r) 24 [some (.ref 5), none, some (.ref a2), some (.ref a3), some (.ref a4), some (.int x5), some (.int x6), none, none, none] [] M) : ∀ (x5 : Int32) (x6 : Int32) (M : sm_M) (r : sm_M), f_X4_spread_24b F a2 a3 a4 n4 kb24 x5 x6 M = some r → sm_J (md_X4_spread, 1, sk, .inl none, r) 24 [some (.ref 5), none, some (.ref a2), some (.ref a3), some (.ref a4), some (.int x5), some (.int x6), none, none, none] [] M := by
  intro x5 x6  M r h
  unfold f_X4_spread_24b at h
  refine sm_iload (q := 26) d_X4_spread_24 rfl rfl ?_
  refine sm_iload (q := 28) d_X4_spread_26 rfl rfl ?_
  refine sm_icmp_ge (q := 31) (t := 134) d_X4_spread_28 rfl rfl (fun c1 => ?_) (fun c1 => ?_)
  · replace h := sm_it c1 h
    refine sm_fg [0, 2, 3, 4, 5, 6] ?_
    exact j_X4_spread_134 hx F a2 a3 a4 n4 ha2 ha3 ha4 M _ h
  · replace h := sm_if c1 h
    refine sm_iload (q := 33) d_X4_spread_31 rfl rfl ?_
    refine sm_aload_n (q := 34) d_X4_spread_33 rfl rfl ?_
    refine sm_getr (q := 37) d_X4_spread_34 rfl fl_X4_12 (hx sx_5) rfl ?_
    refine sm_geti (q := 40) d_X4_spread_37 rfl fl_X4_66 (hx sx_6) rfl ?_
    refine sm_icmp_ge (q := 43) (t := 134) d_X4_spread_40 rfl rfl (fun c2 => ?_) (fun c2 => ?_)
    · replace h := sm_it c2 h
      refine sm_fg [0, 2, 3, 4, 5, 6] ?_
      exact j_X4_spread_134 hx F a2 a3 a4 n4 ha2 ha3 ha4 M _ h
    · replace h := sm_if c2 h
      refine sm_aload_n (q := 44) d_X4_spread_43 rfl rfl ?_
      refine sm_getr (q := 47) d_X4_spread_44 rfl fl_X4_41 (hx sx_5) rfl ?_
      refine sm_iload (q := 49) d_X4_spread_47 rfl rfl ?_
      obtain ⟨g3, h⟩ := sm_gt h
      refine sm_iaload (q := 50) d_X4_spread_49 rfl (hx sx_21) (sm_ib_of g3) ?_
      refine sm_istore (q := 52) (lt := [some (.ref 5), none, some (.ref a2), some (.ref a3), some (.ref a4), some (.int x5), some (.int x6), some (.int (M.1 21 x6.toNatClampNeg)), none, none]) d_X4_spread_50 rfl (Nat.le_of_ble_eq_true rfl) rfl rfl ?_
      refine sm_aload_n (q := 53) d_X4_spread_52 rfl rfl ?_
      refine sm_getr (q := 56) d_X4_spread_53 rfl fl_X4_108 ha2.1 rfl ?_
      refine sm_iload (q := 58) d_X4_spread_56 rfl rfl ?_
      obtain ⟨g4, h⟩ := sm_gt h
      refine sm_iaload (q := 59) d_X4_spread_58 rfl ha2.2.2.2 (sm_ib_of g4) ?_
      refine sm_istore (q := 61) (lt := [some (.ref 5), none, some (.ref a2), some (.ref a3), some (.ref a4), some (.int x5), some (.int x6), some (.int (M.1 21 x6.toNatClampNeg)), some (.int (M.1 (a2 + 3) (M.1 21 x6.toNatClampNeg).toNatClampNeg)), none]) d_X4_spread_59 rfl (Nat.le_of_ble_eq_true rfl) rfl rfl ?_
      exact j_X4_spread_61 hx F a2 a3 a4 n4 ha2 ha3 ha4 kb24 hkb24 F x5 x6 (M.1 21 x6.toNatClampNeg) (M.1 (a2 + 3) (M.1 21 x6.toNatClampNeg).toNatClampNeg) M _ h
def f_X4_spread_24 (F : Nat) (a2 : Nat) (a3 : Nat) (a4 n4 : Nat) (n : Nat) : Int32 → Int32 → sm_M → Option (sm_M) := match n with
 | 0 => fun _ _ _ => none
 | n + 1 => f_X4_spread_24b F a2 a3 a4 n4 (f_X4_spread_24 F a2 a3 a4 n4 n)
theorem j_X4_spread_24 {sk : List sm_Sh} (hx : sm_ext skX sk) (F : Nat) (a2 : Nat) (a3 : Nat) (a4 n4 : Nat) (ha2 : sm_fan sk a2) (ha3 : sm_fan sk a3) (ha4 : sm_ints sk a4 n4) : ∀ (n : Nat) (x5 : Int32) (x6 : Int32) (M : sm_M) (r : sm_M), f_X4_spread_24 F a2 a3 a4 n4 n x5 x6 M = some r → sm_J (md_X4_spread, 1, sk, .inl none, r) 24 [some (.ref 5), none, some (.ref a2), some (.ref a3), some (.ref a4), some (.int x5), some (.int x6), none, none, none] [] M := by
  intro n
  induction n with
  | zero => intro x5 x6  M r h; exact nomatch (show (none : Option (sm_M)) = some r from h)
  | succ n ih => exact j_X4_spread_24b hx F a2 a3 a4 n4 ha2 ha3 ha4 (f_X4_spread_24 F a2 a3 a4 n4 n) ih
def f_X4_spread (F : Nat) (a2 : Nat) (a3 : Nat) (a4 n4 : Nat) (x1 : Int32) (M : sm_M) : Option (sm_M) := (f_J7_fill_53178 F a4 n4 (-1 : Int32) M).bind fun q1 => sm_g (sm_ib x1 n4) (f_X4_spread_24 F a2 a3 a4 n4 F (1 : Int32) (0 : Int32) ((sm_mi (sm_mi q1 a4 x1.toNatClampNeg (0 : Int32)) 21 (0 : Int32).toNatClampNeg x1)))
set_option maxRecDepth 100000 in
set_option maxHeartbeats 4000000 in
theorem j_X4_spread {sk : List sm_Sh} (hx : sm_ext skX sk) (F : Nat) (a2 : Nat) (a3 : Nat) (a4 n4 : Nat) (ha2 : sm_fan sk a2) (ha3 : sm_fan sk a3) (ha4 : sm_ints sk a4 n4) : ∀ (x1 : Int32) (M : sm_M) (r : sm_M), f_X4_spread F a2 a3 a4 n4 x1 M = some r → sm_J (md_X4_spread, 1, sk, .inl none, r) 0 [some (.ref 5), some (.int x1), some (.ref a2), some (.ref a3), some (.ref a4), none, none, none, none, none] [] M := by
  intro x1  M r h
  unfold f_X4_spread at h
  refine sm_aload (q := 2) d_X4_spread_0 rfl rfl ?_
  refine sm_iconst (q := 3) d_X4_spread_2 rfl ci_m1 ?_
  obtain ⟨q1, e1, h⟩ := sm_bd h
  refine sm_callS (q := 6) (d' := 0) [] [.ref a4, .int (-1 : Int32)] d_X4_spread_3 rfl lk_X4_128 rfl (Nat.le_of_ble_eq_true rfl) (Nat.le_of_ble_eq_true rfl) (c_J7_fill_53178 hx F a4 n4 ha4 (-1 : Int32) M _ e1) (st9 := []) rfl ?_
  refine sm_aload (q := 8) d_X4_spread_6 rfl rfl ?_
  refine sm_iload_n (q := 9) d_X4_spread_8 rfl rfl ?_
  refine sm_iconst (q := 10) d_X4_spread_9 rfl ci_0 ?_
  obtain ⟨g2, h⟩ := sm_gt h
  refine sm_iastore (q := 11) d_X4_spread_10 rfl ha4 (sm_ib_of g2) ?_
  refine sm_aload_n (q := 12) d_X4_spread_11 rfl rfl ?_
  refine sm_getr (q := 15) d_X4_spread_12 rfl fl_X4_41 (hx sx_5) rfl ?_
  refine sm_iconst (q := 16) d_X4_spread_15 rfl ci_0 ?_
  refine sm_iload_n (q := 17) d_X4_spread_16 rfl rfl ?_
  refine sm_iastore (q := 18) d_X4_spread_17 rfl (hx sx_21) (sm_ib_of (by decide)) ?_
  refine sm_iconst (q := 19) d_X4_spread_18 rfl ci_1 ?_
  refine sm_istore (q := 21) (lt := [some (.ref 5), some (.int x1), some (.ref a2), some (.ref a3), some (.ref a4), some (.int (1 : Int32)), none, none, none, none]) d_X4_spread_19 rfl (Nat.le_of_ble_eq_true rfl) rfl rfl ?_
  refine sm_iconst (q := 22) d_X4_spread_21 rfl ci_0 ?_
  refine sm_istore (q := 24) (lt := [some (.ref 5), some (.int x1), some (.ref a2), some (.ref a3), some (.ref a4), some (.int (1 : Int32)), some (.int (0 : Int32)), none, none, none]) d_X4_spread_22 rfl (Nat.le_of_ble_eq_true rfl) rfl rfl ?_
  refine sm_fg [1] ?_
  exact j_X4_spread_24 hx F a2 a3 a4 n4 ha2 ha3 ha4 F (1 : Int32) (0 : Int32) ((sm_mi (sm_mi q1 a4 x1.toNatClampNeg (0 : Int32)) 21 (0 : Int32).toNatClampNeg x1)) _ h
theorem c_X4_spread {sk : List sm_Sh} (hx : sm_ext skX sk) (F : Nat) (a2 : Nat) (a3 : Nat) (a4 n4 : Nat) (ha2 : sm_fan sk a2) (ha3 : sm_fan sk a3) (ha4 : sm_ints sk a4 n4) (x1 : Int32) (M : sm_M) (r : sm_M) (h : f_X4_spread F a2 a3 a4 n4 x1 M = some r) : sm_Ct yX4_spread md_X4_spread 1 sk [.ref 5, .int x1, .ref a2, .ref a3, .ref a4] M (.inl none) r := sm_enter 5 pn_X4 rfl (Nat.le_of_ble_eq_true rfl) rfl (j_X4_spread hx F a2 a3 a4 n4 ha2 ha3 ha4 x1 M r h)
/-! UniversalCycles$Graph.walkLength(II)I -/
theorem d_X4_walkLength_0 : decode cX4_walkLength 0 = .ok (.aload_n 0, 1) := by decide +kernel
theorem d_X4_walkLength_1 : decode cX4_walkLength 1 = .ok (.iload_n 1, 1) := by decide +kernel
theorem d_X4_walkLength_2 : decode cX4_walkLength 2 = .ok (.aload_n 0, 1) := by decide +kernel
theorem d_X4_walkLength_3 : decode cX4_walkLength 3 = .ok (.getfield 21, 3) := by decide +kernel
theorem d_X4_walkLength_6 : decode cX4_walkLength 6 = .ok (.aload_n 0, 1) := by decide +kernel
theorem d_X4_walkLength_7 : decode cX4_walkLength 7 = .ok (.getfield 25, 3) := by decide +kernel
theorem d_X4_walkLength_10 : decode cX4_walkLength 10 = .ok (.aload_n 0, 1) := by decide +kernel
theorem d_X4_walkLength_11 : decode cX4_walkLength 11 = .ok (.getfield 44, 3) := by decide +kernel
theorem d_X4_walkLength_14 : decode cX4_walkLength 14 = .ok (.invokevirtual 124, 3) := by decide +kernel
theorem d_X4_walkLength_17 : decode cX4_walkLength 17 = .ok (.aload_n 0, 1) := by decide +kernel
theorem d_X4_walkLength_18 : decode cX4_walkLength 18 = .ok (.getfield 44, 3) := by decide +kernel
theorem d_X4_walkLength_21 : decode cX4_walkLength 21 = .ok (.iload_n 2, 1) := by decide +kernel
theorem d_X4_walkLength_22 : decode cX4_walkLength 22 = .ok (.iaload, 1) := by decide +kernel
theorem d_X4_walkLength_23 : decode cX4_walkLength 23 = .ok (.ireturn, 1) := by decide +kernel
def f_X4_walkLength (F : Nat) (x1 : Int32) (x2 : Int32) (M : sm_M) : Option (Int32 × sm_M) := (f_X4_spread F 9 13 22 200 x1 M).bind fun q1 => sm_g (sm_ib x2 200) (some ((q1.1 22 x2.toNatClampNeg), q1))
set_option maxRecDepth 100000 in
set_option maxHeartbeats 4000000 in
theorem j_X4_walkLength {sk : List sm_Sh} (hx : sm_ext skX sk) (F : Nat) : ∀ (x1 : Int32) (x2 : Int32) (M : sm_M) (r : Int32 × sm_M), f_X4_walkLength F x1 x2 M = some r → sm_J (md_X4_walkLength, 2, sk, .inl (some (.int r.1)), r.2) 0 [some (.ref 5), some (.int x1), some (.int x2)] [] M := by
  intro x1 x2  M r h
  unfold f_X4_walkLength at h
  refine sm_aload_n (q := 1) d_X4_walkLength_0 rfl rfl ?_
  refine sm_iload_n (q := 2) d_X4_walkLength_1 rfl rfl ?_
  refine sm_aload_n (q := 3) d_X4_walkLength_2 rfl rfl ?_
  refine sm_getr (q := 6) d_X4_walkLength_3 rfl fl_X4_21 (hx sx_5) rfl ?_
  refine sm_aload_n (q := 7) d_X4_walkLength_6 rfl rfl ?_
  refine sm_getr (q := 10) d_X4_walkLength_7 rfl fl_X4_25 (hx sx_5) rfl ?_
  refine sm_aload_n (q := 11) d_X4_walkLength_10 rfl rfl ?_
  refine sm_getr (q := 14) d_X4_walkLength_11 rfl fl_X4_44 (hx sx_5) rfl ?_
  obtain ⟨q1, e1, h⟩ := sm_bd h
  refine sm_callV (q := 17) (d' := 1) [] [.int x1, .ref 9, .ref 13, .ref 22] d_X4_walkLength_14 rfl lk_X4_124 (hx sx_5) rfl rfl rfl (Nat.le_of_ble_eq_true rfl) (Nat.le_of_ble_eq_true rfl) (c_X4_spread hx F 9 13 22 200 ⟨hx sx_9, hx sx_10, hx sx_11, hx sx_12⟩ ⟨hx sx_13, hx sx_14, hx sx_15, hx sx_16⟩ (hx sx_22) x1 M _ e1) (st9 := []) rfl ?_
  refine sm_aload_n (q := 18) d_X4_walkLength_17 rfl rfl ?_
  refine sm_getr (q := 21) d_X4_walkLength_18 rfl fl_X4_44 (hx sx_5) rfl ?_
  refine sm_iload_n (q := 22) d_X4_walkLength_21 rfl rfl ?_
  obtain ⟨g2, h⟩ := sm_gt h
  refine sm_iaload (q := 23) d_X4_walkLength_22 rfl (hx sx_22) (sm_ib_of g2) ?_
  obtain rfl := Option.some.inj h
  exact sm_iret d_X4_walkLength_23 rfl rfl rfl rfl
theorem c_X4_walkLength {sk : List sm_Sh} (hx : sm_ext skX sk) (F : Nat) (x1 : Int32) (x2 : Int32) (M : sm_M) (r : Int32 × sm_M) (h : f_X4_walkLength F x1 x2 M = some r) : sm_Ct yX4_walkLength md_X4_walkLength 2 sk [.ref 5, .int x1, .int x2] M (.inl (some (.int r.1))) r.2 := sm_enter 0 pn_X4 rfl (Nat.le_of_ble_eq_true rfl) rfl (j_X4_walkLength hx F x1 x2 M r h)
/-! UniversalCycles$Graph.lowestOfComponent(I)I -/
theorem d_X4_lowestOfComponent_0 : decode cX4_lowestOfComponent 0 = .ok (.aload_n 0, 1) := by decide +kernel
theorem d_X4_lowestOfComponent_1 : decode cX4_lowestOfComponent 1 = .ok (.iload_n 1, 1) := by decide +kernel
theorem d_X4_lowestOfComponent_2 : decode cX4_lowestOfComponent 2 = .ok (.aload_n 0, 1) := by decide +kernel
theorem d_X4_lowestOfComponent_3 : decode cX4_lowestOfComponent 3 = .ok (.getfield 21, 3) := by decide +kernel
theorem d_X4_lowestOfComponent_6 : decode cX4_lowestOfComponent 6 = .ok (.aload_n 0, 1) := by decide +kernel
theorem d_X4_lowestOfComponent_7 : decode cX4_lowestOfComponent 7 = .ok (.getfield 25, 3) := by decide +kernel
theorem d_X4_lowestOfComponent_10 : decode cX4_lowestOfComponent 10 = .ok (.aload_n 0, 1) := by decide +kernel
theorem d_X4_lowestOfComponent_11 : decode cX4_lowestOfComponent 11 = .ok (.getfield 44, 3) := by decide +kernel
theorem d_X4_lowestOfComponent_14 : decode cX4_lowestOfComponent 14 = .ok (.invokevirtual 124, 3) := by decide +kernel
theorem d_X4_lowestOfComponent_17 : decode cX4_lowestOfComponent 17 = .ok (.aload_n 0, 1) := by decide +kernel
theorem d_X4_lowestOfComponent_18 : decode cX4_lowestOfComponent 18 = .ok (.iload_n 1, 1) := by decide +kernel
theorem d_X4_lowestOfComponent_19 : decode cX4_lowestOfComponent 19 = .ok (.aload_n 0, 1) := by decide +kernel
theorem d_X4_lowestOfComponent_20 : decode cX4_lowestOfComponent 20 = .ok (.getfield 25, 3) := by decide +kernel
theorem d_X4_lowestOfComponent_23 : decode cX4_lowestOfComponent 23 = .ok (.aload_n 0, 1) := by decide +kernel
theorem d_X4_lowestOfComponent_24 : decode cX4_lowestOfComponent 24 = .ok (.getfield 21, 3) := by decide +kernel
theorem d_X4_lowestOfComponent_27 : decode cX4_lowestOfComponent 27 = .ok (.aload_n 0, 1) := by decide +kernel
theorem d_X4_lowestOfComponent_28 : decode cX4_lowestOfComponent 28 = .ok (.getfield 47, 3) := by decide +kernel
theorem d_X4_lowestOfComponent_31 : decode cX4_lowestOfComponent 31 = .ok (.invokevirtual 124, 3) := by decide +kernel
theorem d_X4_lowestOfComponent_34 : decode cX4_lowestOfComponent 34 = .ok (.iconst 0, 1) := by decide +kernel
theorem d_X4_lowestOfComponent_35 : decode cX4_lowestOfComponent 35 = .ok (.istore_n 2, 1) := by decide +kernel
theorem d_X4_lowestOfComponent_36 : decode cX4_lowestOfComponent 36 = .ok (.iload_n 2, 1) := by decide +kernel
theorem d_X4_lowestOfComponent_37 : decode cX4_lowestOfComponent 37 = .ok (.iload_n 1, 1) := by decide +kernel
theorem d_X4_lowestOfComponent_38 : decode cX4_lowestOfComponent 38 = .ok (.if_icmp .ge 31, 3) := by decide +kernel
theorem d_X4_lowestOfComponent_41 : decode cX4_lowestOfComponent 41 = .ok (.aload_n 0, 1) := by decide +kernel
theorem d_X4_lowestOfComponent_42 : decode cX4_lowestOfComponent 42 = .ok (.getfield 44, 3) := by decide +kernel
theorem d_X4_lowestOfComponent_45 : decode cX4_lowestOfComponent 45 = .ok (.iload_n 2, 1) := by decide +kernel
theorem d_X4_lowestOfComponent_46 : decode cX4_lowestOfComponent 46 = .ok (.iaload, 1) := by decide +kernel
theorem d_X4_lowestOfComponent_47 : decode cX4_lowestOfComponent 47 = .ok (.iconst (-1), 1) := by decide +kernel
theorem d_X4_lowestOfComponent_48 : decode cX4_lowestOfComponent 48 = .ok (.if_icmp .eq 15, 3) := by decide +kernel
theorem d_X4_lowestOfComponent_51 : decode cX4_lowestOfComponent 51 = .ok (.aload_n 0, 1) := by decide +kernel
theorem d_X4_lowestOfComponent_52 : decode cX4_lowestOfComponent 52 = .ok (.getfield 47, 3) := by decide +kernel
theorem d_X4_lowestOfComponent_55 : decode cX4_lowestOfComponent 55 = .ok (.iload_n 2, 1) := by decide +kernel
theorem d_X4_lowestOfComponent_56 : decode cX4_lowestOfComponent 56 = .ok (.iaload, 1) := by decide +kernel
theorem d_X4_lowestOfComponent_57 : decode cX4_lowestOfComponent 57 = .ok (.iconst (-1), 1) := by decide +kernel
theorem d_X4_lowestOfComponent_58 : decode cX4_lowestOfComponent 58 = .ok (.if_icmp .eq 5, 3) := by decide +kernel
theorem d_X4_lowestOfComponent_61 : decode cX4_lowestOfComponent 61 = .ok (.iload_n 2, 1) := by decide +kernel
theorem d_X4_lowestOfComponent_62 : decode cX4_lowestOfComponent 62 = .ok (.ireturn, 1) := by decide +kernel
theorem d_X4_lowestOfComponent_63 : decode cX4_lowestOfComponent 63 = .ok (.iinc 2 1, 3) := by decide +kernel
theorem d_X4_lowestOfComponent_66 : decode cX4_lowestOfComponent 66 = .ok (.goto (-30), 3) := by decide +kernel
theorem d_X4_lowestOfComponent_69 : decode cX4_lowestOfComponent 69 = .ok (.iload_n 1, 1) := by decide +kernel
theorem d_X4_lowestOfComponent_70 : decode cX4_lowestOfComponent 70 = .ok (.ireturn, 1) := by decide +kernel
def f_X4_lowestOfComponent_63 (F : Nat) (kb36 : Int32 → Int32 → sm_M → Option (Int32 × sm_M)) (x1 : Int32) (x2 : Int32) (M : sm_M) : Option (Int32 × sm_M) := kb36 x1 (x2 + 1) M
set_option maxRecDepth 100000 in
set_option maxHeartbeats 4000000 in
theorem j_X4_lowestOfComponent_63 {sk : List sm_Sh} (hx : sm_ext skX sk) (F : Nat) (kb36 : Int32 → Int32 → sm_M → Option (Int32 × sm_M)) (hkb36 : ∀ (x1 : Int32) (x2 : Int32) (M : sm_M) (r : Int32 × sm_M), kb36 x1 x2 M = some r → sm_J (md_X4_lowestOfComponent, 2, sk, .inl (some (.int r.1)), r.2) 36 [some (.ref 5), some (.int x1), some (.int x2)] [] M) : ∀ (x1 : Int32) (x2 : Int32) (M : sm_M) (r : Int32 × sm_M), f_X4_lowestOfComponent_63 F kb36 x1 x2 M = some r → sm_J (md_X4_lowestOfComponent, 2, sk, .inl (some (.int r.1)), r.2) 63 [some (.ref 5), some (.int x1), some (.int x2)] [] M := by
  intro x1 x2  M r h
  unfold f_X4_lowestOfComponent_63 at h
  refine sm_iinc (q := 66) (v := (x2 + 1)) (lt := [some (.ref 5), some (.int x1), some (.int (x2 + 1))]) d_X4_lowestOfComponent_63 rfl rfl (ii_1 _) (Nat.le_of_ble_eq_true rfl) rfl rfl ?_
  refine sm_goto (t := 36) d_X4_lowestOfComponent_66 rfl ?_
  exact hkb36 x1 (x2 + 1) M _ h
def f_X4_lowestOfComponent_36b (F : Nat) (kb36 : Int32 → Int32 → sm_M → Option (Int32 × sm_M)) (x1 : Int32) (x2 : Int32) (M : sm_M) : Option (Int32 × sm_M) := if x1 ≤ x2 then (some (x1, M)) else (sm_g (sm_ib x2 200) (if (M.1 22 x2.toNatClampNeg) = (-1 : Int32) then (f_X4_lowestOfComponent_63 F kb36 x1 x2 M) else (sm_g (sm_ib x2 200) (if (M.1 23 x2.toNatClampNeg) = (-1 : Int32) then (f_X4_lowestOfComponent_63 F kb36 x1 x2 M) else (some (x2, M))))))
set_option maxRecDepth 100000 in
set_option maxHeartbeats 4000000 in
theorem j_X4_lowestOfComponent_36b {sk : List sm_Sh} (hx : sm_ext skX sk) (F : Nat) (kb36 : Int32 → Int32 → sm_M → Option (Int32 × sm_M)) (hkb36 : ∀ (x1 : Int32) (x2 : Int32) (M : sm_M) (r : Int32 × sm_M), kb36 x1 x2 M = some r → sm_J (md_X4_lowestOfComponent, 2, sk, .inl (some (.int r.1)), r.2) 36 [some (.ref 5), some (.int x1), some (.int x2)] [] M) : ∀ (x1 : Int32) (x2 : Int32) (M : sm_M) (r : Int32 × sm_M), f_X4_lowestOfComponent_36b F kb36 x1 x2 M = some r → sm_J (md_X4_lowestOfComponent, 2, sk, .inl (some (.int r.1)), r.2) 36 [some (.ref 5), some (.int x1), some (.int x2)] [] M := by
  intro x1 x2  M r h
  unfold f_X4_lowestOfComponent_36b at h
  refine sm_iload_n (q := 37) d_X4_lowestOfComponent_36 rfl rfl ?_
  refine sm_iload_n (q := 38) d_X4_lowestOfComponent_37 rfl rfl ?_
  refine sm_icmp_ge (q := 41) (t := 69) d_X4_lowestOfComponent_38 rfl rfl (fun c1 => ?_) (fun c1 => ?_)
  · replace h := sm_it c1 h
    refine sm_iload_n (q := 70) d_X4_lowestOfComponent_69 rfl rfl ?_
    obtain rfl := Option.some.inj h
    exact sm_iret d_X4_lowestOfComponent_70 rfl rfl rfl rfl
  · replace h := sm_if c1 h
    refine sm_aload_n (q := 42) d_X4_lowestOfComponent_41 rfl rfl ?_
    refine sm_getr (q := 45) d_X4_lowestOfComponent_42 rfl fl_X4_44 (hx sx_5) rfl ?_
    refine sm_iload_n (q := 46) d_X4_lowestOfComponent_45 rfl rfl ?_
    obtain ⟨g2, h⟩ := sm_gt h
    refine sm_iaload (q := 47) d_X4_lowestOfComponent_46 rfl (hx sx_22) (sm_ib_of g2) ?_
    refine sm_iconst (q := 48) d_X4_lowestOfComponent_47 rfl ci_m1 ?_
    refine sm_icmp_eq (q := 51) (t := 63) d_X4_lowestOfComponent_48 rfl rfl (fun c3 => ?_) (fun c3 => ?_)
    · replace h := sm_it c3 h
      exact j_X4_lowestOfComponent_63 hx F kb36 hkb36 x1 x2 M _ h
    · replace h := sm_if c3 h
      refine sm_aload_n (q := 52) d_X4_lowestOfComponent_51 rfl rfl ?_
      refine sm_getr (q := 55) d_X4_lowestOfComponent_52 rfl fl_X4_47 (hx sx_5) rfl ?_
      refine sm_iload_n (q := 56) d_X4_lowestOfComponent_55 rfl rfl ?_
      obtain ⟨g4, h⟩ := sm_gt h
      refine sm_iaload (q := 57) d_X4_lowestOfComponent_56 rfl (hx sx_23) (sm_ib_of g4) ?_
      refine sm_iconst (q := 58) d_X4_lowestOfComponent_57 rfl ci_m1 ?_
      refine sm_icmp_eq (q := 61) (t := 63) d_X4_lowestOfComponent_58 rfl rfl (fun c5 => ?_) (fun c5 => ?_)
      · replace h := sm_it c5 h
        exact j_X4_lowestOfComponent_63 hx F kb36 hkb36 x1 x2 M _ h
      · replace h := sm_if c5 h
        refine sm_iload_n (q := 62) d_X4_lowestOfComponent_61 rfl rfl ?_
        obtain rfl := Option.some.inj h
        exact sm_iret d_X4_lowestOfComponent_62 rfl rfl rfl rfl
def f_X4_lowestOfComponent_36 (F : Nat) (n : Nat) : Int32 → Int32 → sm_M → Option (Int32 × sm_M) := match n with
 | 0 => fun _ _ _ => none
 | n + 1 => f_X4_lowestOfComponent_36b F (f_X4_lowestOfComponent_36 F n)
theorem j_X4_lowestOfComponent_36 {sk : List sm_Sh} (hx : sm_ext skX sk) (F : Nat) : ∀ (n : Nat) (x1 : Int32) (x2 : Int32) (M : sm_M) (r : Int32 × sm_M), f_X4_lowestOfComponent_36 F n x1 x2 M = some r → sm_J (md_X4_lowestOfComponent, 2, sk, .inl (some (.int r.1)), r.2) 36 [some (.ref 5), some (.int x1), some (.int x2)] [] M := by
  intro n
  induction n with
  | zero => intro x1 x2  M r h; exact nomatch (show (none : Option (Int32 × sm_M)) = some r from h)
  | succ n ih => exact j_X4_lowestOfComponent_36b hx F (f_X4_lowestOfComponent_36 F n) ih
def f_X4_lowestOfComponent (F : Nat) (x1 : Int32) (M : sm_M) : Option (Int32 × sm_M) := (f_X4_spread F 9 13 22 200 x1 M).bind fun q1 => (f_X4_spread F 13 9 23 200 x1 q1).bind fun q2 => f_X4_lowestOfComponent_36 F F x1 (0 : Int32) q2
set_option maxRecDepth 100000 in
set_option maxHeartbeats 4000000 in
theorem j_X4_lowestOfComponent {sk : List sm_Sh} (hx : sm_ext skX sk) (F : Nat) : ∀ (x1 : Int32) (M : sm_M) (r : Int32 × sm_M), f_X4_lowestOfComponent F x1 M = some r → sm_J (md_X4_lowestOfComponent, 2, sk, .inl (some (.int r.1)), r.2) 0 [some (.ref 5), some (.int x1), none] [] M := by
  intro x1  M r h
  unfold f_X4_lowestOfComponent at h
  refine sm_aload_n (q := 1) d_X4_lowestOfComponent_0 rfl rfl ?_
  refine sm_iload_n (q := 2) d_X4_lowestOfComponent_1 rfl rfl ?_
  refine sm_aload_n (q := 3) d_X4_lowestOfComponent_2 rfl rfl ?_
  refine sm_getr (q := 6) d_X4_lowestOfComponent_3 rfl fl_X4_21 (hx sx_5) rfl ?_
  refine sm_aload_n (q := 7) d_X4_lowestOfComponent_6 rfl rfl ?_
  refine sm_getr (q := 10) d_X4_lowestOfComponent_7 rfl fl_X4_25 (hx sx_5) rfl ?_
  refine sm_aload_n (q := 11) d_X4_lowestOfComponent_10 rfl rfl ?_
  refine sm_getr (q := 14) d_X4_lowestOfComponent_11 rfl fl_X4_44 (hx sx_5) rfl ?_
  obtain ⟨q1, e1, h⟩ := sm_bd h
  refine sm_callV (q := 17) (d' := 1) [] [.int x1, .ref 9, .ref 13, .ref 22] d_X4_lowestOfComponent_14 rfl lk_X4_124 (hx sx_5) rfl rfl rfl (Nat.le_of_ble_eq_true rfl) (Nat.le_of_ble_eq_true rfl) (c_X4_spread hx F 9 13 22 200 ⟨hx sx_9, hx sx_10, hx sx_11, hx sx_12⟩ ⟨hx sx_13, hx sx_14, hx sx_15, hx sx_16⟩ (hx sx_22) x1 M _ e1) (st9 := []) rfl ?_
  refine sm_aload_n (q := 18) d_X4_lowestOfComponent_17 rfl rfl ?_
  refine sm_iload_n (q := 19) d_X4_lowestOfComponent_18 rfl rfl ?_
  refine sm_aload_n (q := 20) d_X4_lowestOfComponent_19 rfl rfl ?_
  refine sm_getr (q := 23) d_X4_lowestOfComponent_20 rfl fl_X4_25 (hx sx_5) rfl ?_
  refine sm_aload_n (q := 24) d_X4_lowestOfComponent_23 rfl rfl ?_
  refine sm_getr (q := 27) d_X4_lowestOfComponent_24 rfl fl_X4_21 (hx sx_5) rfl ?_
  refine sm_aload_n (q := 28) d_X4_lowestOfComponent_27 rfl rfl ?_
  refine sm_getr (q := 31) d_X4_lowestOfComponent_28 rfl fl_X4_47 (hx sx_5) rfl ?_
  obtain ⟨q2, e2, h⟩ := sm_bd h
  refine sm_callV (q := 34) (d' := 1) [] [.int x1, .ref 13, .ref 9, .ref 23] d_X4_lowestOfComponent_31 rfl lk_X4_124 (hx sx_5) rfl rfl rfl (Nat.le_of_ble_eq_true rfl) (Nat.le_of_ble_eq_true rfl) (c_X4_spread hx F 13 9 23 200 ⟨hx sx_13, hx sx_14, hx sx_15, hx sx_16⟩ ⟨hx sx_9, hx sx_10, hx sx_11, hx sx_12⟩ (hx sx_23) x1 q1 _ e2) (st9 := []) rfl ?_
  refine sm_iconst (q := 35) d_X4_lowestOfComponent_34 rfl ci_0 ?_
  refine sm_istore_n (q := 36) (lt := [some (.ref 5), some (.int x1), some (.int (0 : Int32))]) d_X4_lowestOfComponent_35 rfl (Nat.le_of_ble_eq_true rfl) rfl rfl ?_
  exact j_X4_lowestOfComponent_36 hx F F x1 (0 : Int32) q2 _ h
theorem c_X4_lowestOfComponent {sk : List sm_Sh} (hx : sm_ext skX sk) (F : Nat) (x1 : Int32) (M : sm_M) (r : Int32 × sm_M) (h : f_X4_lowestOfComponent F x1 M = some r) : sm_Ct yX4_lowestOfComponent md_X4_lowestOfComponent 2 sk [.ref 5, .int x1] M (.inl (some (.int r.1))) r.2 := sm_enter 1 pn_X4 rfl (Nat.le_of_ble_eq_true rfl) rfl (j_X4_lowestOfComponent hx F x1 M r h)
/-! UniversalCycles$CircuitCounter.fillMatrix(LUniversalCycles$Graph;I)V -/
theorem d_X0_fillMatrix_0 : decode cX0_fillMatrix 0 = .ok (.iconst 0, 1) := by decide +kernel
theorem d_X0_fillMatrix_1 : decode cX0_fillMatrix 1 = .ok (.istore_n 3, 1) := by decide +kernel
theorem d_X0_fillMatrix_2 : decode cX0_fillMatrix 2 = .ok (.iload_n 3, 1) := by decide +kernel
theorem d_X0_fillMatrix_3 : decode cX0_fillMatrix 3 = .ok (.iload_n 2, 1) := by decide +kernel
theorem d_X0_fillMatrix_4 : decode cX0_fillMatrix 4 = .ok (.if_icmp .ge 19, 3) := by decide +kernel
theorem d_X0_fillMatrix_7 : decode cX0_fillMatrix 7 = .ok (.aload_n 0, 1) := by decide +kernel
theorem d_X0_fillMatrix_8 : decode cX0_fillMatrix 8 = .ok (.getfield 11, 3) := by decide +kernel
theorem d_X0_fillMatrix_11 : decode cX0_fillMatrix 11 = .ok (.iload_n 3, 1) := by decide +kernel
theorem d_X0_fillMatrix_12 : decode cX0_fillMatrix 12 = .ok (.aaload, 1) := by decide +kernel
theorem d_X0_fillMatrix_13 : decode cX0_fillMatrix 13 = .ok (.lconst 0, 1) := by decide +kernel
theorem d_X0_fillMatrix_14 : decode cX0_fillMatrix 14 = .ok (.invokestatic 58, 3) := by decide +kernel
theorem d_X0_fillMatrix_17 : decode cX0_fillMatrix 17 = .ok (.iinc 3 1, 3) := by decide +kernel
theorem d_X0_fillMatrix_20 : decode cX0_fillMatrix 20 = .ok (.goto (-18), 3) := by decide +kernel
theorem d_X0_fillMatrix_23 : decode cX0_fillMatrix 23 = .ok (.iconst 0, 1) := by decide +kernel
theorem d_X0_fillMatrix_24 : decode cX0_fillMatrix 24 = .ok (.istore_n 3, 1) := by decide +kernel
theorem d_X0_fillMatrix_25 : decode cX0_fillMatrix 25 = .ok (.iload_n 3, 1) := by decide +kernel
theorem d_X0_fillMatrix_26 : decode cX0_fillMatrix 26 = .ok (.aload_n 1, 1) := by decide +kernel
theorem d_X0_fillMatrix_27 : decode cX0_fillMatrix 27 = .ok (.getfield 64, 3) := by decide +kernel
theorem d_X0_fillMatrix_30 : decode cX0_fillMatrix 30 = .ok (.if_icmp .ge 85, 3) := by decide +kernel
theorem d_X0_fillMatrix_33 : decode cX0_fillMatrix 33 = .ok (.aload_n 1, 1) := by decide +kernel
theorem d_X0_fillMatrix_34 : decode cX0_fillMatrix 34 = .ok (.getfield 42, 3) := by decide +kernel
theorem d_X0_fillMatrix_37 : decode cX0_fillMatrix 37 = .ok (.getfield 67, 3) := by decide +kernel
theorem d_X0_fillMatrix_40 : decode cX0_fillMatrix 40 = .ok (.iload_n 3, 1) := by decide +kernel
theorem d_X0_fillMatrix_41 : decode cX0_fillMatrix 41 = .ok (.iaload, 1) := by decide +kernel
theorem d_X0_fillMatrix_42 : decode cX0_fillMatrix 42 = .ok (.iconst 1, 1) := by decide +kernel
theorem d_X0_fillMatrix_43 : decode cX0_fillMatrix 43 = .ok (.isub, 1) := by decide +kernel
theorem d_X0_fillMatrix_44 : decode cX0_fillMatrix 44 = .ok (.istore 4, 2) := by decide +kernel
theorem d_X0_fillMatrix_46 : decode cX0_fillMatrix 46 = .ok (.aload_n 1, 1) := by decide +kernel
theorem d_X0_fillMatrix_47 : decode cX0_fillMatrix 47 = .ok (.getfield 71, 3) := by decide +kernel
theorem d_X0_fillMatrix_50 : decode cX0_fillMatrix 50 = .ok (.getfield 67, 3) := by decide +kernel
theorem d_X0_fillMatrix_53 : decode cX0_fillMatrix 53 = .ok (.iload_n 3, 1) := by decide +kernel
theorem d_X0_fillMatrix_54 : decode cX0_fillMatrix 54 = .ok (.iaload, 1) := by decide +kernel
theorem d_X0_fillMatrix_55 : decode cX0_fillMatrix 55 = .ok (.iconst 1, 1) := by decide +kernel
theorem d_X0_fillMatrix_56 : decode cX0_fillMatrix 56 = .ok (.isub, 1) := by decide +kernel
theorem d_X0_fillMatrix_57 : decode cX0_fillMatrix 57 = .ok (.istore 5, 2) := by decide +kernel
theorem d_X0_fillMatrix_59 : decode cX0_fillMatrix 59 = .ok (.iload 4, 2) := by decide +kernel
theorem d_X0_fillMatrix_61 : decode cX0_fillMatrix 61 = .ok (.ifCond .lt 48, 3) := by decide +kernel
theorem d_X0_fillMatrix_64 : decode cX0_fillMatrix 64 = .ok (.iload 4, 2) := by decide +kernel
theorem d_X0_fillMatrix_66 : decode cX0_fillMatrix 66 = .ok (.iload_n 2, 1) := by decide +kernel
theorem d_X0_fillMatrix_67 : decode cX0_fillMatrix 67 = .ok (.if_icmp .ge 42, 3) := by decide +kernel
theorem d_X0_fillMatrix_70 : decode cX0_fillMatrix 70 = .ok (.aload_n 0, 1) := by decide +kernel
theorem d_X0_fillMatrix_71 : decode cX0_fillMatrix 71 = .ok (.getfield 11, 3) := by decide +kernel
theorem d_X0_fillMatrix_74 : decode cX0_fillMatrix 74 = .ok (.iload 4, 2) := by decide +kernel
theorem d_X0_fillMatrix_76 : decode cX0_fillMatrix 76 = .ok (.aaload, 1) := by decide +kernel
theorem d_X0_fillMatrix_77 : decode cX0_fillMatrix 77 = .ok (.iload 4, 2) := by decide +kernel
theorem d_X0_fillMatrix_79 : decode cX0_fillMatrix 79 = .ok (.dup2, 1) := by decide +kernel
theorem d_X0_fillMatrix_80 : decode cX0_fillMatrix 80 = .ok (.laload, 1) := by decide +kernel
theorem d_X0_fillMatrix_81 : decode cX0_fillMatrix 81 = .ok (.lconst 1, 1) := by decide +kernel
theorem d_X0_fillMatrix_82 : decode cX0_fillMatrix 82 = .ok (.ladd, 1) := by decide +kernel
theorem d_X0_fillMatrix_83 : decode cX0_fillMatrix 83 = .ok (.lastore, 1) := by decide +kernel
theorem d_X0_fillMatrix_84 : decode cX0_fillMatrix 84 = .ok (.iload 5, 2) := by decide +kernel
theorem d_X0_fillMatrix_86 : decode cX0_fillMatrix 86 = .ok (.ifCond .lt 23, 3) := by decide +kernel
theorem d_X0_fillMatrix_89 : decode cX0_fillMatrix 89 = .ok (.iload 5, 2) := by decide +kernel
theorem d_X0_fillMatrix_91 : decode cX0_fillMatrix 91 = .ok (.iload_n 2, 1) := by decide +kernel
theorem d_X0_fillMatrix_92 : decode cX0_fillMatrix 92 = .ok (.if_icmp .ge 17, 3) := by decide +kernel
theorem d_X0_fillMatrix_95 : decode cX0_fillMatrix 95 = .ok (.aload_n 0, 1) := by decide +kernel
theorem d_X0_fillMatrix_96 : decode cX0_fillMatrix 96 = .ok (.getfield 11, 3) := by decide +kernel
theorem d_X0_fillMatrix_99 : decode cX0_fillMatrix 99 = .ok (.iload 4, 2) := by decide +kernel
theorem d_X0_fillMatrix_101 : decode cX0_fillMatrix 101 = .ok (.aaload, 1) := by decide +kernel
theorem d_X0_fillMatrix_102 : decode cX0_fillMatrix 102 = .ok (.iload 5, 2) := by decide +kernel
theorem d_X0_fillMatrix_104 : decode cX0_fillMatrix 104 = .ok (.dup2, 1) := by decide +kernel
theorem d_X0_fillMatrix_105 : decode cX0_fillMatrix 105 = .ok (.laload, 1) := by decide +kernel
theorem d_X0_fillMatrix_106 : decode cX0_fillMatrix 106 = .ok (.lconst 1, 1) := by decide +kernel
theorem d_X0_fillMatrix_107 : decode cX0_fillMatrix 107 = .ok (.lsub, 1) := by decide +kernel
theorem d_X0_fillMatrix_108 : decode cX0_fillMatrix 108 = .ok (.lastore, 1) := by decide +kernel
theorem d_X0_fillMatrix_109 : decode cX0_fillMatrix 109 = .ok (.iinc 3 1, 3) := by decide +kernel
theorem d_X0_fillMatrix_112 : decode cX0_fillMatrix 112 = .ok (.goto (-87), 3) := by decide +kernel
theorem d_X0_fillMatrix_115 : decode cX0_fillMatrix 115 = .ok (.return_, 1) := by decide +kernel
def f_X0_fillMatrix_109 (F : Nat) (kb25 : Int32 → Int32 → sm_M → Option (sm_M)) (x2 : Int32) (x3 : Int32) (M : sm_M) : Option (sm_M) := kb25 x2 (x3 + 1) M
set_option maxRecDepth 100000 in
set_option maxHeartbeats 4000000 in
theorem j_X0_fillMatrix_109 {sk : List sm_Sh} (hx : sm_ext skX sk) (F : Nat) (kb25 : Int32 → Int32 → sm_M → Option (sm_M)) (hkb25 : ∀ (x2 : Int32) (x3 : Int32) (M : sm_M) (r : sm_M), kb25 x2 x3 M = some r → sm_J (md_X0_fillMatrix, 1, sk, .inl none, r) 25 [some (.ref 67), some (.ref 5), some (.int x2), some (.int x3), none, none] [] M) : ∀ (x2 : Int32) (x3 : Int32) (M : sm_M) (r : sm_M), f_X0_fillMatrix_109 F kb25 x2 x3 M = some r → sm_J (md_X0_fillMatrix, 1, sk, .inl none, r) 109 [some (.ref 67), some (.ref 5), some (.int x2), some (.int x3), none, none] [] M := by
  intro x2 x3  M r h
  unfold f_X0_fillMatrix_109 at h
  refine sm_iinc (q := 112) (v := (x3 + 1)) (lt := [some (.ref 67), some (.ref 5), some (.int x2), some (.int (x3 + 1)), none, none]) d_X0_fillMatrix_109 rfl rfl (ii_1 _) (Nat.le_of_ble_eq_true rfl) rfl rfl ?_
  refine sm_goto (t := 25) d_X0_fillMatrix_112 rfl ?_
  exact hkb25 x2 (x3 + 1) M _ h
def f_X0_fillMatrix_25b (F : Nat) (kb25 : Int32 → Int32 → sm_M → Option (sm_M)) (x2 : Int32) (x3 : Int32) (M : sm_M) : Option (sm_M) := if (M.1 5 10) ≤ x3 then (some M) else (sm_g (sm_ib x3 200) (sm_g (sm_ib x3 200) (if ((M.1 10 x3.toNatClampNeg) - (1 : Int32)) < 0 then (f_X0_fillMatrix_109 F kb25 x2 x3 M) else (if x2 ≤ ((M.1 10 x3.toNatClampNeg) - (1 : Int32)) then (f_X0_fillMatrix_109 F kb25 x2 x3 M) else (sm_g (sm_ib ((M.1 10 x3.toNatClampNeg) - (1 : Int32)) 7) (sm_g (sm_ib ((M.1 10 x3.toNatClampNeg) - (1 : Int32)) 7) (sm_g (sm_ib ((M.1 10 x3.toNatClampNeg) - (1 : Int32)) 7) (if ((M.1 14 x3.toNatClampNeg) - (1 : Int32)) < 0 then (f_X0_fillMatrix_109 F kb25 x2 x3 ((sm_ml M (69 + ((M.1 10 x3.toNatClampNeg) - (1 : Int32)).toNatClampNeg) ((M.1 10 x3.toNatClampNeg) - (1 : Int32)).toNatClampNeg ((M.2 (69 + ((M.1 10 x3.toNatClampNeg) - (1 : Int32)).toNatClampNeg) ((M.1 10 x3.toNatClampNeg) - (1 : Int32)).toNatClampNeg) + (1 : Int64))))) else (if x2 ≤ ((M.1 14 x3.toNatClampNeg) - (1 : Int32)) then (f_X0_fillMatrix_109 F kb25 x2 x3 ((sm_ml M (69 + ((M.1 10 x3.toNatClampNeg) - (1 : Int32)).toNatClampNeg) ((M.1 10 x3.toNatClampNeg) - (1 : Int32)).toNatClampNeg ((M.2 (69 + ((M.1 10 x3.toNatClampNeg) - (1 : Int32)).toNatClampNeg) ((M.1 10 x3.toNatClampNeg) - (1 : Int32)).toNatClampNeg) + (1 : Int64))))) else (sm_g (sm_ib ((M.1 10 x3.toNatClampNeg) - (1 : Int32)) 7) (sm_g (sm_ib ((M.1 14 x3.toNatClampNeg) - (1 : Int32)) 7) (sm_g (sm_ib ((M.1 14 x3.toNatClampNeg) - (1 : Int32)) 7) (f_X0_fillMatrix_109 F kb25 x2 x3 ((sm_ml (sm_ml M (69 + ((M.1 10 x3.toNatClampNeg) - (1 : Int32)).toNatClampNeg) ((M.1 10 x3.toNatClampNeg) - (1 : Int32)).toNatClampNeg ((M.2 (69 + ((M.1 10 x3.toNatClampNeg) - (1 : Int32)).toNatClampNeg) ((M.1 10 x3.toNatClampNeg) - (1 : Int32)).toNatClampNeg) + (1 : Int64))) (69 + ((M.1 10 x3.toNatClampNeg) - (1 : Int32)).toNatClampNeg) ((M.1 14 x3.toNatClampNeg) - (1 : Int32)).toNatClampNeg (((sm_ml M (69 + ((M.1 10 x3.toNatClampNeg) - (1 : Int32)).toNatClampNeg) ((M.1 10 x3.toNatClampNeg) - (1 : Int32)).toNatClampNeg ((M.2 (69 + ((M.1 10 x3.toNatClampNeg) - (1 : Int32)).toNatClampNeg) ((M.1 10 x3.toNatClampNeg) - (1 : Int32)).toNatClampNeg) + (1 : Int64))).2 (69 + ((M.1 10 x3.toNatClampNeg) - (1 : Int32)).toNatClampNeg) ((M.1 14 x3.toNatClampNeg) - (1 : Int32)).toNatClampNeg) - (1 : Int64)))))))))))))))))
set_option maxRecDepth 100000 in
set_option maxHeartbeats 4000000 in
theorem j_X0_fillMatrix_25b {sk : List sm_Sh} (hx : sm_ext skX sk) (F : Nat) (kb25 : Int32 → Int32 → sm_M → Option (sm_M)) (hkb25 : ∀ (x2 : Int32) (x3 : Int32) (M : sm_M) (r : sm_M), kb25 x2 x3 M = some r → sm_J (md_X0_fillMatrix, 1, sk, .inl none, r) 25 [some (.ref 67), some (.ref 5), some (.int x2), some (.int x3), none, none] [] M) : ∀ (x2 : Int32) (x3 : Int32) (M : sm_M) (r : sm_M), f_X0_fillMatrix_25b F kb25 x2 x3 M = some r → sm_J (md_X0_fillMatrix, 1, sk, .inl none, r) 25 [some (.ref 67), some (.ref 5), some (.int x2), some (.int x3), none, none] [] M := by
  intro x2 x3  M r h
  unfold f_X0_fillMatrix_25b at h
  refine sm_iload_n (q := 26) d_X0_fillMatrix_25 rfl rfl ?_
  refine sm_aload_n (q := 27) d_X0_fillMatrix_26 rfl rfl ?_
  refine sm_geti (q := 30) d_X0_fillMatrix_27 rfl fl_X0_64 (hx sx_5) rfl ?_
  refine sm_icmp_ge (q := 33) (t := 115) d_X0_fillMatrix_30 rfl rfl (fun c1 => ?_) (fun c1 => ?_)
  · replace h := sm_it c1 h
    obtain rfl := Option.some.inj h
    exact sm_vret d_X0_fillMatrix_115 rfl rfl rfl
  · replace h := sm_if c1 h
    refine sm_aload_n (q := 34) d_X0_fillMatrix_33 rfl rfl ?_
    refine sm_getr (q := 37) d_X0_fillMatrix_34 rfl fl_X0_42 (hx sx_5) rfl ?_
    refine sm_getr (q := 40) d_X0_fillMatrix_37 rfl fl_X0_67 (hx sx_9) rfl ?_
    refine sm_iload_n (q := 41) d_X0_fillMatrix_40 rfl rfl ?_
    obtain ⟨g2, h⟩ := sm_gt h
    refine sm_iaload (q := 42) d_X0_fillMatrix_41 rfl (hx sx_10) (sm_ib_of g2) ?_
    refine sm_iconst (q := 43) d_X0_fillMatrix_42 rfl ci_1 ?_
    refine sm_isub (q := 44) d_X0_fillMatrix_43 rfl ?_
    refine sm_istore (q := 46) (lt := [some (.ref 67), some (.ref 5), some (.int x2), some (.int x3), some (.int ((M.1 10 x3.toNatClampNeg) - (1 : Int32))), none]) d_X0_fillMatrix_44 rfl (Nat.le_of_ble_eq_true rfl) rfl rfl ?_
    refine sm_aload_n (q := 47) d_X0_fillMatrix_46 rfl rfl ?_
    refine sm_getr (q := 50) d_X0_fillMatrix_47 rfl fl_X0_71 (hx sx_5) rfl ?_
    refine sm_getr (q := 53) d_X0_fillMatrix_50 rfl fl_X0_67 (hx sx_13) rfl ?_
    refine sm_iload_n (q := 54) d_X0_fillMatrix_53 rfl rfl ?_
    obtain ⟨g3, h⟩ := sm_gt h
    refine sm_iaload (q := 55) d_X0_fillMatrix_54 rfl (hx sx_14) (sm_ib_of g3) ?_
    refine sm_iconst (q := 56) d_X0_fillMatrix_55 rfl ci_1 ?_
    refine sm_isub (q := 57) d_X0_fillMatrix_56 rfl ?_
    refine sm_istore (q := 59) (lt := [some (.ref 67), some (.ref 5), some (.int x2), some (.int x3), some (.int ((M.1 10 x3.toNatClampNeg) - (1 : Int32))), some (.int ((M.1 14 x3.toNatClampNeg) - (1 : Int32)))]) d_X0_fillMatrix_57 rfl (Nat.le_of_ble_eq_true rfl) rfl rfl ?_
    refine sm_iload (q := 61) d_X0_fillMatrix_59 rfl rfl ?_
    refine sm_if_lt (q := 64) (t := 109) d_X0_fillMatrix_61 rfl rfl (fun c4 => ?_) (fun c4 => ?_)
    · replace h := sm_it c4 h
      refine sm_fg [4, 5] ?_
      exact j_X0_fillMatrix_109 hx F kb25 hkb25 x2 x3 M _ h
    · replace h := sm_if c4 h
      refine sm_iload (q := 66) d_X0_fillMatrix_64 rfl rfl ?_
      refine sm_iload_n (q := 67) d_X0_fillMatrix_66 rfl rfl ?_
      refine sm_icmp_ge (q := 70) (t := 109) d_X0_fillMatrix_67 rfl rfl (fun c5 => ?_) (fun c5 => ?_)
      · replace h := sm_it c5 h
        refine sm_fg [4, 5] ?_
        exact j_X0_fillMatrix_109 hx F kb25 hkb25 x2 x3 M _ h
      · replace h := sm_if c5 h
        refine sm_aload_n (q := 71) d_X0_fillMatrix_70 rfl rfl ?_
        refine sm_getr (q := 74) d_X0_fillMatrix_71 rfl fl_X0_11 (hx sx_67) rfl ?_
        refine sm_iload (q := 76) d_X0_fillMatrix_74 rfl rfl ?_
        obtain ⟨g6, h⟩ := sm_gt h
        refine sm_aaload (q := 77) d_X0_fillMatrix_76 rfl (hx sx_68) (Or.inr rfl) (sm_ib_of g6) (sm_mat g6) ?_
        refine sm_iload (q := 79) d_X0_fillMatrix_77 rfl rfl ?_
        refine sm_dup2 (q := 80) d_X0_fillMatrix_79 rfl rfl rfl ?_
        obtain ⟨g7, h⟩ := sm_gt h
        refine sm_laload (q := 81) d_X0_fillMatrix_80 rfl (sm_mrow hx g6) (sm_ib_of g7) ?_
        refine sm_lconst (q := 82) d_X0_fillMatrix_81 rfl cl_1 ?_
        refine sm_ladd (q := 83) d_X0_fillMatrix_82 rfl ?_
        obtain ⟨g8, h⟩ := sm_gt h
        refine sm_lastore (q := 84) d_X0_fillMatrix_83 rfl (sm_mrow hx g6) (sm_ib_of g8) ?_
        refine sm_iload (q := 86) d_X0_fillMatrix_84 rfl rfl ?_
        refine sm_if_lt (q := 89) (t := 109) d_X0_fillMatrix_86 rfl rfl (fun c9 => ?_) (fun c9 => ?_)
        · replace h := sm_it c9 h
          refine sm_fg [4, 5] ?_
          exact j_X0_fillMatrix_109 hx F kb25 hkb25 x2 x3 ((sm_ml M (69 + ((M.1 10 x3.toNatClampNeg) - (1 : Int32)).toNatClampNeg) ((M.1 10 x3.toNatClampNeg) - (1 : Int32)).toNatClampNeg ((M.2 (69 + ((M.1 10 x3.toNatClampNeg) - (1 : Int32)).toNatClampNeg) ((M.1 10 x3.toNatClampNeg) - (1 : Int32)).toNatClampNeg) + (1 : Int64)))) _ h
        · replace h := sm_if c9 h
          refine sm_iload (q := 91) d_X0_fillMatrix_89 rfl rfl ?_
          refine sm_iload_n (q := 92) d_X0_fillMatrix_91 rfl rfl ?_
          refine sm_icmp_ge (q := 95) (t := 109) d_X0_fillMatrix_92 rfl rfl (fun c10 => ?_) (fun c10 => ?_)
          · replace h := sm_it c10 h
            refine sm_fg [4, 5] ?_
            exact j_X0_fillMatrix_109 hx F kb25 hkb25 x2 x3 ((sm_ml M (69 + ((M.1 10 x3.toNatClampNeg) - (1 : Int32)).toNatClampNeg) ((M.1 10 x3.toNatClampNeg) - (1 : Int32)).toNatClampNeg ((M.2 (69 + ((M.1 10 x3.toNatClampNeg) - (1 : Int32)).toNatClampNeg) ((M.1 10 x3.toNatClampNeg) - (1 : Int32)).toNatClampNeg) + (1 : Int64)))) _ h
          · replace h := sm_if c10 h
            refine sm_aload_n (q := 96) d_X0_fillMatrix_95 rfl rfl ?_
            refine sm_getr (q := 99) d_X0_fillMatrix_96 rfl fl_X0_11 (hx sx_67) rfl ?_
            refine sm_iload (q := 101) d_X0_fillMatrix_99 rfl rfl ?_
            obtain ⟨g11, h⟩ := sm_gt h
            refine sm_aaload (q := 102) d_X0_fillMatrix_101 rfl (hx sx_68) (Or.inr rfl) (sm_ib_of g11) (sm_mat g11) ?_
            refine sm_iload (q := 104) d_X0_fillMatrix_102 rfl rfl ?_
            refine sm_dup2 (q := 105) d_X0_fillMatrix_104 rfl rfl rfl ?_
            obtain ⟨g12, h⟩ := sm_gt h
            refine sm_laload (q := 106) d_X0_fillMatrix_105 rfl (sm_mrow hx g11) (sm_ib_of g12) ?_
            refine sm_lconst (q := 107) d_X0_fillMatrix_106 rfl cl_1 ?_
            refine sm_lsub (q := 108) d_X0_fillMatrix_107 rfl ?_
            obtain ⟨g13, h⟩ := sm_gt h
            refine sm_lastore (q := 109) d_X0_fillMatrix_108 rfl (sm_mrow hx g11) (sm_ib_of g13) ?_
            refine sm_fg [4, 5] ?_
            exact j_X0_fillMatrix_109 hx F kb25 hkb25 x2 x3 ((sm_ml (sm_ml M (69 + ((M.1 10 x3.toNatClampNeg) - (1 : Int32)).toNatClampNeg) ((M.1 10 x3.toNatClampNeg) - (1 : Int32)).toNatClampNeg ((M.2 (69 + ((M.1 10 x3.toNatClampNeg) - (1 : Int32)).toNatClampNeg) ((M.1 10 x3.toNatClampNeg) - (1 : Int32)).toNatClampNeg) + (1 : Int64))) (69 + ((M.1 10 x3.toNatClampNeg) - (1 : Int32)).toNatClampNeg) ((M.1 14 x3.toNatClampNeg) - (1 : Int32)).toNatClampNeg (((sm_ml M (69 + ((M.1 10 x3.toNatClampNeg) - (1 : Int32)).toNatClampNeg) ((M.1 10 x3.toNatClampNeg) - (1 : Int32)).toNatClampNeg ((M.2 (69 + ((M.1 10 x3.toNatClampNeg) - (1 : Int32)).toNatClampNeg) ((M.1 10 x3.toNatClampNeg) - (1 : Int32)).toNatClampNeg) + (1 : Int64))).2 (69 + ((M.1 10 x3.toNatClampNeg) - (1 : Int32)).toNatClampNeg) ((M.1 14 x3.toNatClampNeg) - (1 : Int32)).toNatClampNeg) - (1 : Int64)))) _ h
def f_X0_fillMatrix_25 (F : Nat) (n : Nat) : Int32 → Int32 → sm_M → Option (sm_M) := match n with
 | 0 => fun _ _ _ => none
 | n + 1 => f_X0_fillMatrix_25b F (f_X0_fillMatrix_25 F n)
theorem j_X0_fillMatrix_25 {sk : List sm_Sh} (hx : sm_ext skX sk) (F : Nat) : ∀ (n : Nat) (x2 : Int32) (x3 : Int32) (M : sm_M) (r : sm_M), f_X0_fillMatrix_25 F n x2 x3 M = some r → sm_J (md_X0_fillMatrix, 1, sk, .inl none, r) 25 [some (.ref 67), some (.ref 5), some (.int x2), some (.int x3), none, none] [] M := by
  intro n
  induction n with
  | zero => intro x2 x3  M r h; exact nomatch (show (none : Option (sm_M)) = some r from h)
  | succ n ih => exact j_X0_fillMatrix_25b hx F (f_X0_fillMatrix_25 F n) ih
def f_X0_fillMatrix_2b (F : Nat) (kb2 : Int32 → Int32 → sm_M → Option (sm_M)) (x2 : Int32) (x3 : Int32) (M : sm_M) : Option (sm_M) := if x2 ≤ x3 then (f_X0_fillMatrix_25 F F x2 (0 : Int32) M) else (sm_g (sm_ib x3 7) ((f_J7_fill_d0a16 F (69 + x3.toNatClampNeg) 7 (0 : Int64) M).bind fun q3 => kb2 x2 (x3 + 1) q3))
set_option maxRecDepth 100000 in
set_option maxHeartbeats 4000000 in
theorem j_X0_fillMatrix_2b {sk : List sm_Sh} (hx : sm_ext skX sk) (F : Nat) (kb2 : Int32 → Int32 → sm_M → Option (sm_M)) (hkb2 : ∀ (x2 : Int32) (x3 : Int32) (M : sm_M) (r : sm_M), kb2 x2 x3 M = some r → sm_J (md_X0_fillMatrix, 1, sk, .inl none, r) 2 [some (.ref 67), some (.ref 5), some (.int x2), some (.int x3), none, none] [] M) : ∀ (x2 : Int32) (x3 : Int32) (M : sm_M) (r : sm_M), f_X0_fillMatrix_2b F kb2 x2 x3 M = some r → sm_J (md_X0_fillMatrix, 1, sk, .inl none, r) 2 [some (.ref 67), some (.ref 5), some (.int x2), some (.int x3), none, none] [] M := by
  intro x2 x3  M r h
  unfold f_X0_fillMatrix_2b at h
  refine sm_iload_n (q := 3) d_X0_fillMatrix_2 rfl rfl ?_
  refine sm_iload_n (q := 4) d_X0_fillMatrix_3 rfl rfl ?_
  refine sm_icmp_ge (q := 7) (t := 23) d_X0_fillMatrix_4 rfl rfl (fun c1 => ?_) (fun c1 => ?_)
  · replace h := sm_it c1 h
    refine sm_iconst (q := 24) d_X0_fillMatrix_23 rfl ci_0 ?_
    refine sm_istore_n (q := 25) (lt := [some (.ref 67), some (.ref 5), some (.int x2), some (.int (0 : Int32)), none, none]) d_X0_fillMatrix_24 rfl (Nat.le_of_ble_eq_true rfl) rfl rfl ?_
    exact j_X0_fillMatrix_25 hx F F x2 (0 : Int32) M _ h
  · replace h := sm_if c1 h
    refine sm_aload_n (q := 8) d_X0_fillMatrix_7 rfl rfl ?_
    refine sm_getr (q := 11) d_X0_fillMatrix_8 rfl fl_X0_11 (hx sx_67) rfl ?_
    refine sm_iload_n (q := 12) d_X0_fillMatrix_11 rfl rfl ?_
    obtain ⟨g2, h⟩ := sm_gt h
    refine sm_aaload (q := 13) d_X0_fillMatrix_12 rfl (hx sx_68) (Or.inr rfl) (sm_ib_of g2) (sm_mat g2) ?_
    refine sm_lconst (q := 14) d_X0_fillMatrix_13 rfl cl_0 ?_
    obtain ⟨q3, e3, h⟩ := sm_bd h
    refine sm_callS (q := 17) (d' := 0) [] [.ref (69 + x3.toNatClampNeg), .long (0 : Int64)] d_X0_fillMatrix_14 rfl lk_X0_58 rfl (Nat.le_of_ble_eq_true rfl) (Nat.le_of_ble_eq_true rfl) (c_J7_fill_d0a16 hx F (69 + x3.toNatClampNeg) 7 (sm_mrow hx g2) (0 : Int64) M _ e3) (st9 := []) rfl ?_
    refine sm_iinc (q := 20) (v := (x3 + 1)) (lt := [some (.ref 67), some (.ref 5), some (.int x2), some (.int (x3 + 1)), none, none]) d_X0_fillMatrix_17 rfl rfl (ii_1 _) (Nat.le_of_ble_eq_true rfl) rfl rfl ?_
    refine sm_goto (t := 2) d_X0_fillMatrix_20 rfl ?_
    exact hkb2 x2 (x3 + 1) q3 _ h
def f_X0_fillMatrix_2 (F : Nat) (n : Nat) : Int32 → Int32 → sm_M → Option (sm_M) := match n with
 | 0 => fun _ _ _ => none
 | n + 1 => f_X0_fillMatrix_2b F (f_X0_fillMatrix_2 F n)
theorem j_X0_fillMatrix_2 {sk : List sm_Sh} (hx : sm_ext skX sk) (F : Nat) : ∀ (n : Nat) (x2 : Int32) (x3 : Int32) (M : sm_M) (r : sm_M), f_X0_fillMatrix_2 F n x2 x3 M = some r → sm_J (md_X0_fillMatrix, 1, sk, .inl none, r) 2 [some (.ref 67), some (.ref 5), some (.int x2), some (.int x3), none, none] [] M := by
  intro n
  induction n with
  | zero => intro x2 x3  M r h; exact nomatch (show (none : Option (sm_M)) = some r from h)
  | succ n ih => exact j_X0_fillMatrix_2b hx F (f_X0_fillMatrix_2 F n) ih
def f_X0_fillMatrix (F : Nat) (x2 : Int32) (M : sm_M) : Option (sm_M) := f_X0_fillMatrix_2 F F x2 (0 : Int32) M
set_option maxRecDepth 100000 in
set_option maxHeartbeats 4000000 in
theorem j_X0_fillMatrix {sk : List sm_Sh} (hx : sm_ext skX sk) (F : Nat) : ∀ (x2 : Int32) (M : sm_M) (r : sm_M), f_X0_fillMatrix F x2 M = some r → sm_J (md_X0_fillMatrix, 1, sk, .inl none, r) 0 [some (.ref 67), some (.ref 5), some (.int x2), none, none, none] [] M := by
  intro x2  M r h
  unfold f_X0_fillMatrix at h
  refine sm_iconst (q := 1) d_X0_fillMatrix_0 rfl ci_0 ?_
  refine sm_istore_n (q := 2) (lt := [some (.ref 67), some (.ref 5), some (.int x2), some (.int (0 : Int32)), none, none]) d_X0_fillMatrix_1 rfl (Nat.le_of_ble_eq_true rfl) rfl rfl ?_
  exact j_X0_fillMatrix_2 hx F F x2 (0 : Int32) M _ h
theorem c_X0_fillMatrix {sk : List sm_Sh} (hx : sm_ext skX sk) (F : Nat) (x2 : Int32) (M : sm_M) (r : sm_M) (h : f_X0_fillMatrix F x2 M = some r) : sm_Ct yX0_fillMatrix md_X0_fillMatrix 1 sk [.ref 67, .ref 5, .int x2] M (.inl none) r := sm_enter 3 pn_X0 rfl (Nat.le_of_ble_eq_true rfl) rfl (j_X0_fillMatrix hx F x2 M r h)
/-! UniversalCycles$CircuitCounter.determinant(I)J -/
theorem d_X0_determinant_0 : decode cX0_determinant 0 = .ok (.lconst 1, 1) := by decide +kernel
theorem d_X0_determinant_1 : decode cX0_determinant 1 = .ok (.lstore_n 2, 1) := by decide +kernel
theorem d_X0_determinant_2 : decode cX0_determinant 2 = .ok (.iconst 0, 1) := by decide +kernel
theorem d_X0_determinant_3 : decode cX0_determinant 3 = .ok (.istore 4, 2) := by decide +kernel
theorem d_X0_determinant_5 : decode cX0_determinant 5 = .ok (.iload 4, 2) := by decide +kernel
theorem d_X0_determinant_7 : decode cX0_determinant 7 = .ok (.iload_n 1, 1) := by decide +kernel
theorem d_X0_determinant_8 : decode cX0_determinant 8 = .ok (.if_icmp .ge 120, 3) := by decide +kernel
theorem d_X0_determinant_11 : decode cX0_determinant 11 = .ok (.aload_n 0, 1) := by decide +kernel
theorem d_X0_determinant_12 : decode cX0_determinant 12 = .ok (.getfield 11, 3) := by decide +kernel
theorem d_X0_determinant_15 : decode cX0_determinant 15 = .ok (.iload 4, 2) := by decide +kernel
theorem d_X0_determinant_17 : decode cX0_determinant 17 = .ok (.aaload, 1) := by decide +kernel
theorem d_X0_determinant_18 : decode cX0_determinant 18 = .ok (.iload 4, 2) := by decide +kernel
theorem d_X0_determinant_20 : decode cX0_determinant 20 = .ok (.laload, 1) := by decide +kernel
theorem d_X0_determinant_21 : decode cX0_determinant 21 = .ok (.lstore 5, 2) := by decide +kernel
theorem d_X0_determinant_23 : decode cX0_determinant 23 = .ok (.lload 5, 2) := by decide +kernel
theorem d_X0_determinant_25 : decode cX0_determinant 25 = .ok (.lconst 0, 1) := by decide +kernel
theorem d_X0_determinant_26 : decode cX0_determinant 26 = .ok (.lcmp, 1) := by decide +kernel
theorem d_X0_determinant_27 : decode cX0_determinant 27 = .ok (.ifCond .ne 5, 3) := by decide +kernel
theorem d_X0_determinant_30 : decode cX0_determinant 30 = .ok (.lconst 0, 1) := by decide +kernel
theorem d_X0_determinant_31 : decode cX0_determinant 31 = .ok (.lreturn, 1) := by decide +kernel
theorem d_X0_determinant_32 : decode cX0_determinant 32 = .ok (.iload 4, 2) := by decide +kernel
theorem d_X0_determinant_34 : decode cX0_determinant 34 = .ok (.iconst 1, 1) := by decide +kernel
theorem d_X0_determinant_35 : decode cX0_determinant 35 = .ok (.iadd, 1) := by decide +kernel
theorem d_X0_determinant_36 : decode cX0_determinant 36 = .ok (.istore 7, 2) := by decide +kernel
theorem d_X0_determinant_38 : decode cX0_determinant 38 = .ok (.iload 7, 2) := by decide +kernel
theorem d_X0_determinant_40 : decode cX0_determinant 40 = .ok (.iload_n 1, 1) := by decide +kernel
theorem d_X0_determinant_41 : decode cX0_determinant 41 = .ok (.if_icmp .ge 78, 3) := by decide +kernel
theorem d_X0_determinant_44 : decode cX0_determinant 44 = .ok (.iload 4, 2) := by decide +kernel
theorem d_X0_determinant_46 : decode cX0_determinant 46 = .ok (.iconst 1, 1) := by decide +kernel
theorem d_X0_determinant_47 : decode cX0_determinant 47 = .ok (.iadd, 1) := by decide +kernel
theorem d_X0_determinant_48 : decode cX0_determinant 48 = .ok (.istore 8, 2) := by decide +kernel
theorem d_X0_determinant_50 : decode cX0_determinant 50 = .ok (.iload 8, 2) := by decide +kernel
theorem d_X0_determinant_52 : decode cX0_determinant 52 = .ok (.iload_n 1, 1) := by decide +kernel
theorem d_X0_determinant_53 : decode cX0_determinant 53 = .ok (.if_icmp .ge 60, 3) := by decide +kernel
theorem d_X0_determinant_56 : decode cX0_determinant 56 = .ok (.aload_n 0, 1) := by decide +kernel
theorem d_X0_determinant_57 : decode cX0_determinant 57 = .ok (.getfield 11, 3) := by decide +kernel
theorem d_X0_determinant_60 : decode cX0_determinant 60 = .ok (.iload 7, 2) := by decide +kernel
theorem d_X0_determinant_62 : decode cX0_determinant 62 = .ok (.aaload, 1) := by decide +kernel
theorem d_X0_determinant_63 : decode cX0_determinant 63 = .ok (.iload 4, 2) := by decide +kernel
theorem d_X0_determinant_65 : decode cX0_determinant 65 = .ok (.laload, 1) := by decide +kernel
theorem d_X0_determinant_66 : decode cX0_determinant 66 = .ok (.aload_n 0, 1) := by decide +kernel
theorem d_X0_determinant_67 : decode cX0_determinant 67 = .ok (.getfield 11, 3) := by decide +kernel
theorem d_X0_determinant_70 : decode cX0_determinant 70 = .ok (.iload 4, 2) := by decide +kernel
theorem d_X0_determinant_72 : decode cX0_determinant 72 = .ok (.aaload, 1) := by decide +kernel
theorem d_X0_determinant_73 : decode cX0_determinant 73 = .ok (.iload 8, 2) := by decide +kernel
theorem d_X0_determinant_75 : decode cX0_determinant 75 = .ok (.laload, 1) := by decide +kernel
theorem d_X0_determinant_76 : decode cX0_determinant 76 = .ok (.lmul, 1) := by decide +kernel
theorem d_X0_determinant_77 : decode cX0_determinant 77 = .ok (.lstore 9, 2) := by decide +kernel
theorem d_X0_determinant_79 : decode cX0_determinant 79 = .ok (.aload_n 0, 1) := by decide +kernel
theorem d_X0_determinant_80 : decode cX0_determinant 80 = .ok (.getfield 11, 3) := by decide +kernel
theorem d_X0_determinant_83 : decode cX0_determinant 83 = .ok (.iload 7, 2) := by decide +kernel
theorem d_X0_determinant_85 : decode cX0_determinant 85 = .ok (.aaload, 1) := by decide +kernel
theorem d_X0_determinant_86 : decode cX0_determinant 86 = .ok (.iload 8, 2) := by decide +kernel
theorem d_X0_determinant_88 : decode cX0_determinant 88 = .ok (.aload_n 0, 1) := by decide +kernel
theorem d_X0_determinant_89 : decode cX0_determinant 89 = .ok (.getfield 11, 3) := by decide +kernel
theorem d_X0_determinant_92 : decode cX0_determinant 92 = .ok (.iload 7, 2) := by decide +kernel
theorem d_X0_determinant_94 : decode cX0_determinant 94 = .ok (.aaload, 1) := by decide +kernel
theorem d_X0_determinant_95 : decode cX0_determinant 95 = .ok (.iload 8, 2) := by decide +kernel
theorem d_X0_determinant_97 : decode cX0_determinant 97 = .ok (.laload, 1) := by decide +kernel
theorem d_X0_determinant_98 : decode cX0_determinant 98 = .ok (.lload 5, 2) := by decide +kernel
theorem d_X0_determinant_100 : decode cX0_determinant 100 = .ok (.lmul, 1) := by decide +kernel
theorem d_X0_determinant_101 : decode cX0_determinant 101 = .ok (.lload 9, 2) := by decide +kernel
theorem d_X0_determinant_103 : decode cX0_determinant 103 = .ok (.lsub, 1) := by decide +kernel
theorem d_X0_determinant_104 : decode cX0_determinant 104 = .ok (.lload_n 2, 1) := by decide +kernel
theorem d_X0_determinant_105 : decode cX0_determinant 105 = .ok (.ldiv, 1) := by decide +kernel
theorem d_X0_determinant_106 : decode cX0_determinant 106 = .ok (.lastore, 1) := by decide +kernel
theorem d_X0_determinant_107 : decode cX0_determinant 107 = .ok (.iinc 8 1, 3) := by decide +kernel
theorem d_X0_determinant_110 : decode cX0_determinant 110 = .ok (.goto (-60), 3) := by decide +kernel
theorem d_X0_determinant_113 : decode cX0_determinant 113 = .ok (.iinc 7 1, 3) := by decide +kernel
theorem d_X0_determinant_116 : decode cX0_determinant 116 = .ok (.goto (-78), 3) := by decide +kernel
theorem d_X0_determinant_119 : decode cX0_determinant 119 = .ok (.lload 5, 2) := by decide +kernel
theorem d_X0_determinant_121 : decode cX0_determinant 121 = .ok (.lstore_n 2, 1) := by decide +kernel
theorem d_X0_determinant_122 : decode cX0_determinant 122 = .ok (.iinc 4 1, 3) := by decide +kernel
theorem d_X0_determinant_125 : decode cX0_determinant 125 = .ok (.goto (-120), 3) := by decide +kernel
theorem d_X0_determinant_128 : decode cX0_determinant 128 = .ok (.lload_n 2, 1) := by decide +kernel
theorem d_X0_determinant_129 : decode cX0_determinant 129 = .ok (.lreturn, 1) := by decide +kernel
def f_X0_determinant_50b (F : Nat) (kb5 : Int32 → Int64 → Int32 → sm_M → Option (Int64 × sm_M)) (kb38 : Int32 → Int64 → Int32 → Int64 → Int32 → sm_M → Option (Int64 × sm_M)) (kb50 : Int32 → Int64 → Int32 → Int64 → Int32 → Int32 → sm_M → Option (Int64 × sm_M)) (x1 : Int32) (x2 : Int64) (x4 : Int32) (x5 : Int64) (x7 : Int32) (x8 : Int32) (M : sm_M) : Option (Int64 × sm_M) := if x1 ≤ x8 then (kb38 x1 x2 x4 x5 (x7 + 1) M) else (sm_g (sm_ib x7 7) (sm_g (sm_ib x4 7) (sm_g (sm_ib x4 7) (sm_g (sm_ib x8 7) (sm_g (sm_ib x7 7) (sm_g (sm_ib x7 7) (sm_g (sm_ib x8 7) (sm_g (sm_nzl x2) (sm_g (sm_ib x8 7) (kb50 x1 x2 x4 x5 x7 (x8 + 1) ((sm_ml M (69 + x7.toNatClampNeg) x8.toNatClampNeg ((((M.2 (69 + x7.toNatClampNeg) x8.toNatClampNeg) * x5) - ((M.2 (69 + x7.toNatClampNeg) x4.toNatClampNeg) * (M.2 (69 + x4.toNatClampNeg) x8.toNatClampNeg))) / x2)))))))))))))
set_option maxRecDepth 100000 in
set_option maxHeartbeats 4000000 in
theorem j_X0_determinant_50b {sk : List sm_Sh} (hx : sm_ext skX sk) (F : Nat) (kb5 : Int32 → Int64 → Int32 → sm_M → Option (Int64 × sm_M)) (kb38 : Int32 → Int64 → Int32 → Int64 → Int32 → sm_M → Option (Int64 × sm_M)) (kb50 : Int32 → Int64 → Int32 → Int64 → Int32 → Int32 → sm_M → Option (Int64 × sm_M)) (hkb5 : ∀ (x1 : Int32) (x2 : Int64) (x4 : Int32) (M : sm_M) (r : Int64 × sm_M), kb5 x1 x2 x4 M = some r → sm_J (md_X0_determinant, 0, sk, .inl (some (.long r.1)), r.2) 5 [some (.ref 67), some (.int x1), some (.long x2), none, some (.int x4), none, none, none, none, none, none] [] M) (hkb38 : ∀ (x1 : Int32) (x2 : Int64) (x4 : Int32) (x5 : Int64) (x7 : Int32) (M : sm_M) (r : Int64 × sm_M), kb38 x1 x2 x4 x5 x7 M = some r → sm_J (md_X0_determinant, 0, sk, .inl (some (.long r.1)), r.2) 38 [some (.ref 67), some (.int x1), some (.long x2), none, some (.int x4), some (.long x5), none, some (.int x7), none, none, none] [] M) (hkb50 : ∀ (x1 : Int32) (x2 : Int64) (x4 : Int32) (x5 : Int64) (x7 : Int32) (x8 : Int32) (M : sm_M) (r : Int64 × sm_M), kb50 x1 x2 x4 x5 x7 x8 M = some r → sm_J (md_X0_determinant, 0, sk, .inl (some (.long r.1)), r.2) 50 [some (.ref 67), some (.int x1), some (.long x2), none, some (.int x4), some (.long x5), none, some (.int x7), some (.int x8), none, none] [] M) : ∀ (x1 : Int32) (x2 : Int64) (x4 : Int32) (x5 : Int64) (x7 : Int32) (x8 : Int32) (M : sm_M) (r : Int64 × sm_M), f_X0_determinant_50b F kb5 kb38 kb50 x1 x2 x4 x5 x7 x8 M = some r → sm_J (md_X0_determinant, 0, sk, .inl (some (.long r.1)), r.2) 50 [some (.ref 67), some (.int x1), some (.long x2), none, some (.int x4), some (.long x5), none, some (.int x7), some (.int x8), none, none] [] M := by
  intro x1 x2 x4 x5 x7 x8  M r h
  unfold f_X0_determinant_50b at h
  refine sm_iload (q := 52) d_X0_determinant_50 rfl rfl ?_
  refine sm_iload_n (q := 53) d_X0_determinant_52 rfl rfl ?_
  refine sm_icmp_ge (q := 56) (t := 113) d_X0_determinant_53 rfl rfl (fun c1 => ?_) (fun c1 => ?_)
  · replace h := sm_it c1 h
    refine sm_iinc (q := 116) (v := (x7 + 1)) (lt := [some (.ref 67), some (.int x1), some (.long x2), none, some (.int x4), some (.long x5), none, some (.int (x7 + 1)), some (.int x8), none, none]) d_X0_determinant_113 rfl rfl (ii_1 _) (Nat.le_of_ble_eq_true rfl) rfl rfl ?_
    refine sm_goto (t := 38) d_X0_determinant_116 rfl ?_
    refine sm_fg [8] ?_
    exact hkb38 x1 x2 x4 x5 (x7 + 1) M _ h
  · replace h := sm_if c1 h
    refine sm_aload_n (q := 57) d_X0_determinant_56 rfl rfl ?_
    refine sm_getr (q := 60) d_X0_determinant_57 rfl fl_X0_11 (hx sx_67) rfl ?_
    refine sm_iload (q := 62) d_X0_determinant_60 rfl rfl ?_
    obtain ⟨g2, h⟩ := sm_gt h
    refine sm_aaload (q := 63) d_X0_determinant_62 rfl (hx sx_68) (Or.inr rfl) (sm_ib_of g2) (sm_mat g2) ?_
    refine sm_iload (q := 65) d_X0_determinant_63 rfl rfl ?_
    obtain ⟨g3, h⟩ := sm_gt h
    refine sm_laload (q := 66) d_X0_determinant_65 rfl (sm_mrow hx g2) (sm_ib_of g3) ?_
    refine sm_aload_n (q := 67) d_X0_determinant_66 rfl rfl ?_
    refine sm_getr (q := 70) d_X0_determinant_67 rfl fl_X0_11 (hx sx_67) rfl ?_
    refine sm_iload (q := 72) d_X0_determinant_70 rfl rfl ?_
    obtain ⟨g4, h⟩ := sm_gt h
    refine sm_aaload (q := 73) d_X0_determinant_72 rfl (hx sx_68) (Or.inr rfl) (sm_ib_of g4) (sm_mat g4) ?_
    refine sm_iload (q := 75) d_X0_determinant_73 rfl rfl ?_
    obtain ⟨g5, h⟩ := sm_gt h
    refine sm_laload (q := 76) d_X0_determinant_75 rfl (sm_mrow hx g4) (sm_ib_of g5) ?_
    refine sm_lmul (q := 77) d_X0_determinant_76 rfl ?_
    refine sm_lstore (q := 79) (lt := [some (.ref 67), some (.int x1), some (.long x2), none, some (.int x4), some (.long x5), none, some (.int x7), some (.int x8), some (.long ((M.2 (69 + x7.toNatClampNeg) x4.toNatClampNeg) * (M.2 (69 + x4.toNatClampNeg) x8.toNatClampNeg))), none]) d_X0_determinant_77 rfl (Nat.le_of_ble_eq_true rfl) rfl rfl ?_
    refine sm_aload_n (q := 80) d_X0_determinant_79 rfl rfl ?_
    refine sm_getr (q := 83) d_X0_determinant_80 rfl fl_X0_11 (hx sx_67) rfl ?_
    refine sm_iload (q := 85) d_X0_determinant_83 rfl rfl ?_
    obtain ⟨g6, h⟩ := sm_gt h
    refine sm_aaload (q := 86) d_X0_determinant_85 rfl (hx sx_68) (Or.inr rfl) (sm_ib_of g6) (sm_mat g6) ?_
    refine sm_iload (q := 88) d_X0_determinant_86 rfl rfl ?_
    refine sm_aload_n (q := 89) d_X0_determinant_88 rfl rfl ?_
    refine sm_getr (q := 92) d_X0_determinant_89 rfl fl_X0_11 (hx sx_67) rfl ?_
    refine sm_iload (q := 94) d_X0_determinant_92 rfl rfl ?_
    obtain ⟨g7, h⟩ := sm_gt h
    refine sm_aaload (q := 95) d_X0_determinant_94 rfl (hx sx_68) (Or.inr rfl) (sm_ib_of g7) (sm_mat g7) ?_
    refine sm_iload (q := 97) d_X0_determinant_95 rfl rfl ?_
    obtain ⟨g8, h⟩ := sm_gt h
    refine sm_laload (q := 98) d_X0_determinant_97 rfl (sm_mrow hx g7) (sm_ib_of g8) ?_
    refine sm_lload (q := 100) d_X0_determinant_98 rfl rfl ?_
    refine sm_lmul (q := 101) d_X0_determinant_100 rfl ?_
    refine sm_lload (q := 103) d_X0_determinant_101 rfl rfl ?_
    refine sm_lsub (q := 104) d_X0_determinant_103 rfl ?_
    refine sm_lload_n (q := 105) d_X0_determinant_104 rfl rfl ?_
    obtain ⟨g9, h⟩ := sm_gt h
    refine sm_ldiv (q := 106) d_X0_determinant_105 rfl (sm_nzl_of g9) ?_
    obtain ⟨g10, h⟩ := sm_gt h
    refine sm_lastore (q := 107) d_X0_determinant_106 rfl (sm_mrow hx g6) (sm_ib_of g10) ?_
    refine sm_iinc (q := 110) (v := (x8 + 1)) (lt := [some (.ref 67), some (.int x1), some (.long x2), none, some (.int x4), some (.long x5), none, some (.int x7), some (.int (x8 + 1)), some (.long ((M.2 (69 + x7.toNatClampNeg) x4.toNatClampNeg) * (M.2 (69 + x4.toNatClampNeg) x8.toNatClampNeg))), none]) d_X0_determinant_107 rfl rfl (ii_1 _) (Nat.le_of_ble_eq_true rfl) rfl rfl ?_
    refine sm_goto (t := 50) d_X0_determinant_110 rfl ?_
    refine sm_fg [9] ?_
    exact hkb50 x1 x2 x4 x5 x7 (x8 + 1) ((sm_ml M (69 + x7.toNatClampNeg) x8.toNatClampNeg ((((M.2 (69 + x7.toNatClampNeg) x8.toNatClampNeg) * x5) - ((M.2 (69 + x7.toNatClampNeg) x4.toNatClampNeg) * (M.2 (69 + x4.toNatClampNeg) x8.toNatClampNeg))) / x2))) _ h
def f_X0_determinant_50 (F : Nat) (kb5 : Int32 → Int64 → Int32 → sm_M → Option (Int64 × sm_M)) (kb38 : Int32 → Int64 → Int32 → Int64 → Int32 → sm_M → Option (Int64 × sm_M)) (n : Nat) : Int32 → Int64 → Int32 → Int64 → Int32 → Int32 → sm_M → Option (Int64 × sm_M) := match n with
 | 0 => fun _ _ _ _ _ _ _ => none
 | n + 1 => f_X0_determinant_50b F kb5 kb38 (f_X0_determinant_50 F kb5 kb38 n)
theorem j_X0_determinant_50 {sk : List sm_Sh} (hx : sm_ext skX sk) (F : Nat) (kb5 : Int32 → Int64 → Int32 → sm_M → Option (Int64 × sm_M)) (kb38 : Int32 → Int64 → Int32 → Int64 → Int32 → sm_M → Option (Int64 × sm_M)) (hkb5 : ∀ (x1 : Int32) (x2 : Int64) (x4 : Int32) (M : sm_M) (r : Int64 × sm_M), kb5 x1 x2 x4 M = some r → sm_J (md_X0_determinant, 0, sk, .inl (some (.long r.1)), r.2) 5 [some (.ref 67), some (.int x1), some (.long x2), none, some (.int x4), none, none, none, none, none, none] [] M) (hkb38 : ∀ (x1 : Int32) (x2 : Int64) (x4 : Int32) (x5 : Int64) (x7 : Int32) (M : sm_M) (r : Int64 × sm_M), kb38 x1 x2 x4 x5 x7 M = some r → sm_J (md_X0_determinant, 0, sk, .inl (some (.long r.1)), r.2) 38 [some (.ref 67), some (.int x1), some (.long x2), none, some (.int x4), some (.long x5), none, some (.int x7), none, none, none] [] M) : ∀ (n : Nat) (x1 : Int32) (x2 : Int64) (x4 : Int32) (x5 : Int64) (x7 : Int32) (x8 : Int32) (M : sm_M) (r : Int64 × sm_M), f_X0_determinant_50 F kb5 kb38 n x1 x2 x4 x5 x7 x8 M = some r → sm_J (md_X0_determinant, 0, sk, .inl (some (.long r.1)), r.2) 50 [some (.ref 67), some (.int x1), some (.long x2), none, some (.int x4), some (.long x5), none, some (.int x7), some (.int x8), none, none] [] M := by
  intro n
  induction n with
  | zero => intro x1 x2 x4 x5 x7 x8  M r h; exact nomatch (show (none : Option (Int64 × sm_M)) = some r from h)
  | succ n ih => exact j_X0_determinant_50b hx F kb5 kb38 (f_X0_determinant_50 F kb5 kb38 n) hkb5 hkb38 ih
def f_X0_determinant_38b (F : Nat) (kb5 : Int32 → Int64 → Int32 → sm_M → Option (Int64 × sm_M)) (kb38 : Int32 → Int64 → Int32 → Int64 → Int32 → sm_M → Option (Int64 × sm_M)) (x1 : Int32) (x2 : Int64) (x4 : Int32) (x5 : Int64) (x7 : Int32) (M : sm_M) : Option (Int64 × sm_M) := if x1 ≤ x7 then (kb5 x1 x5 (x4 + 1) M) else (f_X0_determinant_50 F kb5 kb38 F x1 x2 x4 x5 x7 (x4 + (1 : Int32)) M)
set_option maxRecDepth 100000 in
set_option maxHeartbeats 4000000 in
theorem j_X0_determinant_38b {sk : List sm_Sh} (hx : sm_ext skX sk) (F : Nat) (kb5 : Int32 → Int64 → Int32 → sm_M → Option (Int64 × sm_M)) (kb38 : Int32 → Int64 → Int32 → Int64 → Int32 → sm_M → Option (Int64 × sm_M)) (hkb5 : ∀ (x1 : Int32) (x2 : Int64) (x4 : Int32) (M : sm_M) (r : Int64 × sm_M), kb5 x1 x2 x4 M = some r → sm_J (md_X0_determinant, 0, sk, .inl (some (.long r.1)), r.2) 5 [some (.ref 67), some (.int x1), some (.long x2), none, some (.int x4), none, none, none, none, none, none] [] M) (hkb38 : ∀ (x1 : Int32) (x2 : Int64) (x4 : Int32) (x5 : Int64) (x7 : Int32) (M : sm_M) (r : Int64 × sm_M), kb38 x1 x2 x4 x5 x7 M = some r → sm_J (md_X0_determinant, 0, sk, .inl (some (.long r.1)), r.2) 38 [some (.ref 67), some (.int x1), some (.long x2), none, some (.int x4), some (.long x5), none, some (.int x7), none, none, none] [] M) : ∀ (x1 : Int32) (x2 : Int64) (x4 : Int32) (x5 : Int64) (x7 : Int32) (M : sm_M) (r : Int64 × sm_M), f_X0_determinant_38b F kb5 kb38 x1 x2 x4 x5 x7 M = some r → sm_J (md_X0_determinant, 0, sk, .inl (some (.long r.1)), r.2) 38 [some (.ref 67), some (.int x1), some (.long x2), none, some (.int x4), some (.long x5), none, some (.int x7), none, none, none] [] M := by
  intro x1 x2 x4 x5 x7  M r h
  unfold f_X0_determinant_38b at h
  refine sm_iload (q := 40) d_X0_determinant_38 rfl rfl ?_
  refine sm_iload_n (q := 41) d_X0_determinant_40 rfl rfl ?_
  refine sm_icmp_ge (q := 44) (t := 119) d_X0_determinant_41 rfl rfl (fun c1 => ?_) (fun c1 => ?_)
  · replace h := sm_it c1 h
    refine sm_lload (q := 121) d_X0_determinant_119 rfl rfl ?_
    refine sm_lstore_n (q := 122) (lt := [some (.ref 67), some (.int x1), some (.long x5), none, some (.int x4), some (.long x5), none, some (.int x7), none, none, none]) d_X0_determinant_121 rfl (Nat.le_of_ble_eq_true rfl) rfl rfl ?_
    refine sm_iinc (q := 125) (v := (x4 + 1)) (lt := [some (.ref 67), some (.int x1), some (.long x5), none, some (.int (x4 + 1)), some (.long x5), none, some (.int x7), none, none, none]) d_X0_determinant_122 rfl rfl (ii_1 _) (Nat.le_of_ble_eq_true rfl) rfl rfl ?_
    refine sm_goto (t := 5) d_X0_determinant_125 rfl ?_
    refine sm_fg [5, 7] ?_
    exact hkb5 x1 x5 (x4 + 1) M _ h
  · replace h := sm_if c1 h
    refine sm_iload (q := 46) d_X0_determinant_44 rfl rfl ?_
    refine sm_iconst (q := 47) d_X0_determinant_46 rfl ci_1 ?_
    refine sm_iadd (q := 48) d_X0_determinant_47 rfl ?_
    refine sm_istore (q := 50) (lt := [some (.ref 67), some (.int x1), some (.long x2), none, some (.int x4), some (.long x5), none, some (.int x7), some (.int (x4 + (1 : Int32))), none, none]) d_X0_determinant_48 rfl (Nat.le_of_ble_eq_true rfl) rfl rfl ?_
    exact j_X0_determinant_50 hx F kb5 kb38 hkb5 hkb38 F x1 x2 x4 x5 x7 (x4 + (1 : Int32)) M _ h
def f_X0_determinant_38 (F : Nat) (kb5 : Int32 → Int64 → Int32 → sm_M → Option (Int64 × sm_M)) (n : Nat) : Int32 → Int64 → Int32 → Int64 → Int32 → sm_M → Option (Int64 × sm_M) := match n with
 | 0 => fun _ _ _ _ _ _ => none
 | n + 1 => f_X0_determinant_38b F kb5 (f_X0_determinant_38 F kb5 n)
theorem j_X0_determinant_38 {sk : List sm_Sh} (hx : sm_ext skX sk) (F : Nat) (kb5 : Int32 → Int64 → Int32 → sm_M → Option (Int64 × sm_M)) (hkb5 : ∀ (x1 : Int32) (x2 : Int64) (x4 : Int32) (M : sm_M) (r : Int64 × sm_M), kb5 x1 x2 x4 M = some r → sm_J (md_X0_determinant, 0, sk, .inl (some (.long r.1)), r.2) 5 [some (.ref 67), some (.int x1), some (.long x2), none, some (.int x4), none, none, none, none, none, none] [] M) : ∀ (n : Nat) (x1 : Int32) (x2 : Int64) (x4 : Int32) (x5 : Int64) (x7 : Int32) (M : sm_M) (r : Int64 × sm_M), f_X0_determinant_38 F kb5 n x1 x2 x4 x5 x7 M = some r → sm_J (md_X0_determinant, 0, sk, .inl (some (.long r.1)), r.2) 38 [some (.ref 67), some (.int x1), some (.long x2), none, some (.int x4), some (.long x5), none, some (.int x7), none, none, none] [] M := by
  intro n
  induction n with
  | zero => intro x1 x2 x4 x5 x7  M r h; exact nomatch (show (none : Option (Int64 × sm_M)) = some r from h)
  | succ n ih => exact j_X0_determinant_38b hx F kb5 (f_X0_determinant_38 F kb5 n) hkb5 ih
def f_X0_determinant_5b (F : Nat) (kb5 : Int32 → Int64 → Int32 → sm_M → Option (Int64 × sm_M)) (x1 : Int32) (x2 : Int64) (x4 : Int32) (M : sm_M) : Option (Int64 × sm_M) := if x1 ≤ x4 then (some (x2, M)) else (sm_g (sm_ib x4 7) (sm_g (sm_ib x4 7) (if (lg_cmp (M.2 (69 + x4.toNatClampNeg) x4.toNatClampNeg) (0 : Int64)) = 0 then (some ((0 : Int64), M)) else (f_X0_determinant_38 F kb5 F x1 x2 x4 (M.2 (69 + x4.toNatClampNeg) x4.toNatClampNeg) (x4 + (1 : Int32)) M))))
set_option maxRecDepth 100000 in
set_option maxHeartbeats 4000000 in
theorem j_X0_determinant_5b {sk : List sm_Sh} (hx : sm_ext skX sk) (F : Nat) (kb5 : Int32 → Int64 → Int32 → sm_M → Option (Int64 × sm_M)) (hkb5 : ∀ (x1 : Int32) (x2 : Int64) (x4 : Int32) (M : sm_M) (r : Int64 × sm_M), kb5 x1 x2 x4 M = some r → sm_J (md_X0_determinant, 0, sk, .inl (some (.long r.1)), r.2) 5 [some (.ref 67), some (.int x1), some (.long x2), none, some (.int x4), none, none, none, none, none, none] [] M) : ∀ (x1 : Int32) (x2 : Int64) (x4 : Int32) (M : sm_M) (r : Int64 × sm_M), f_X0_determinant_5b F kb5 x1 x2 x4 M = some r → sm_J (md_X0_determinant, 0, sk, .inl (some (.long r.1)), r.2) 5 [some (.ref 67), some (.int x1), some (.long x2), none, some (.int x4), none, none, none, none, none, none] [] M := by
  intro x1 x2 x4  M r h
  unfold f_X0_determinant_5b at h
  refine sm_iload (q := 7) d_X0_determinant_5 rfl rfl ?_
  refine sm_iload_n (q := 8) d_X0_determinant_7 rfl rfl ?_
  refine sm_icmp_ge (q := 11) (t := 128) d_X0_determinant_8 rfl rfl (fun c1 => ?_) (fun c1 => ?_)
  · replace h := sm_it c1 h
    refine sm_lload_n (q := 129) d_X0_determinant_128 rfl rfl ?_
    obtain rfl := Option.some.inj h
    exact sm_lret d_X0_determinant_129 rfl rfl rfl
  · replace h := sm_if c1 h
    refine sm_aload_n (q := 12) d_X0_determinant_11 rfl rfl ?_
    refine sm_getr (q := 15) d_X0_determinant_12 rfl fl_X0_11 (hx sx_67) rfl ?_
    refine sm_iload (q := 17) d_X0_determinant_15 rfl rfl ?_
    obtain ⟨g2, h⟩ := sm_gt h
    refine sm_aaload (q := 18) d_X0_determinant_17 rfl (hx sx_68) (Or.inr rfl) (sm_ib_of g2) (sm_mat g2) ?_
    refine sm_iload (q := 20) d_X0_determinant_18 rfl rfl ?_
    obtain ⟨g3, h⟩ := sm_gt h
    refine sm_laload (q := 21) d_X0_determinant_20 rfl (sm_mrow hx g2) (sm_ib_of g3) ?_
    refine sm_lstore (q := 23) (lt := [some (.ref 67), some (.int x1), some (.long x2), none, some (.int x4), some (.long (M.2 (69 + x4.toNatClampNeg) x4.toNatClampNeg)), none, none, none, none, none]) d_X0_determinant_21 rfl (Nat.le_of_ble_eq_true rfl) rfl rfl ?_
    refine sm_lload (q := 25) d_X0_determinant_23 rfl rfl ?_
    refine sm_lconst (q := 26) d_X0_determinant_25 rfl cl_0 ?_
    refine sm_lcmp (q := 27) d_X0_determinant_26 rfl ?_
    refine sm_if_ne (q := 30) (t := 32) d_X0_determinant_27 rfl rfl (fun c4 => ?_) (fun c4 => ?_)
    · replace h := sm_if c4 h
      refine sm_iload (q := 34) d_X0_determinant_32 rfl rfl ?_
      refine sm_iconst (q := 35) d_X0_determinant_34 rfl ci_1 ?_
      refine sm_iadd (q := 36) d_X0_determinant_35 rfl ?_
      refine sm_istore (q := 38) (lt := [some (.ref 67), some (.int x1), some (.long x2), none, some (.int x4), some (.long (M.2 (69 + x4.toNatClampNeg) x4.toNatClampNeg)), none, some (.int (x4 + (1 : Int32))), none, none, none]) d_X0_determinant_36 rfl (Nat.le_of_ble_eq_true rfl) rfl rfl ?_
      exact j_X0_determinant_38 hx F kb5 hkb5 F x1 x2 x4 (M.2 (69 + x4.toNatClampNeg) x4.toNatClampNeg) (x4 + (1 : Int32)) M _ h
    · replace h := sm_it c4 h
      refine sm_lconst (q := 31) d_X0_determinant_30 rfl cl_0 ?_
      obtain rfl := Option.some.inj h
      exact sm_lret d_X0_determinant_31 rfl rfl rfl
def f_X0_determinant_5 (F : Nat) (n : Nat) : Int32 → Int64 → Int32 → sm_M → Option (Int64 × sm_M) := match n with
 | 0 => fun _ _ _ _ => none
 | n + 1 => f_X0_determinant_5b F (f_X0_determinant_5 F n)
theorem j_X0_determinant_5 {sk : List sm_Sh} (hx : sm_ext skX sk) (F : Nat) : ∀ (n : Nat) (x1 : Int32) (x2 : Int64) (x4 : Int32) (M : sm_M) (r : Int64 × sm_M), f_X0_determinant_5 F n x1 x2 x4 M = some r → sm_J (md_X0_determinant, 0, sk, .inl (some (.long r.1)), r.2) 5 [some (.ref 67), some (.int x1), some (.long x2), none, some (.int x4), none, none, none, none, none, none] [] M := by
  intro n
  induction n with
  | zero => intro x1 x2 x4  M r h; exact nomatch (show (none : Option (Int64 × sm_M)) = some r from h)
  | succ n ih => exact j_X0_determinant_5b hx F (f_X0_determinant_5 F n) ih
def f_X0_determinant (F : Nat) (x1 : Int32) (M : sm_M) : Option (Int64 × sm_M) := f_X0_determinant_5 F F x1 (1 : Int64) (0 : Int32) M
set_option maxRecDepth 100000 in
set_option maxHeartbeats 4000000 in
theorem j_X0_determinant {sk : List sm_Sh} (hx : sm_ext skX sk) (F : Nat) : ∀ (x1 : Int32) (M : sm_M) (r : Int64 × sm_M), f_X0_determinant F x1 M = some r → sm_J (md_X0_determinant, 0, sk, .inl (some (.long r.1)), r.2) 0 [some (.ref 67), some (.int x1), none, none, none, none, none, none, none, none, none] [] M := by
  intro x1  M r h
  unfold f_X0_determinant at h
  refine sm_lconst (q := 1) d_X0_determinant_0 rfl cl_1 ?_
  refine sm_lstore_n (q := 2) (lt := [some (.ref 67), some (.int x1), some (.long (1 : Int64)), none, none, none, none, none, none, none, none]) d_X0_determinant_1 rfl (Nat.le_of_ble_eq_true rfl) rfl rfl ?_
  refine sm_iconst (q := 3) d_X0_determinant_2 rfl ci_0 ?_
  refine sm_istore (q := 5) (lt := [some (.ref 67), some (.int x1), some (.long (1 : Int64)), none, some (.int (0 : Int32)), none, none, none, none, none, none]) d_X0_determinant_3 rfl (Nat.le_of_ble_eq_true rfl) rfl rfl ?_
  exact j_X0_determinant_5 hx F F x1 (1 : Int64) (0 : Int32) M _ h
theorem c_X0_determinant {sk : List sm_Sh} (hx : sm_ext skX sk) (F : Nat) (x1 : Int32) (M : sm_M) (r : Int64 × sm_M) (h : f_X0_determinant F x1 M = some r) : sm_Ct yX0_determinant md_X0_determinant 0 sk [.ref 67, .int x1] M (.inl (some (.long r.1))) r.2 := sm_enter 9 pn_X0 rfl (Nat.le_of_ble_eq_true rfl) rfl (j_X0_determinant hx F x1 M r h)
/-! UniversalCycles$CircuitCounter.count(LUniversalCycles$Graph;)J -/
theorem d_X0_count_0 : decode cX0_count 0 = .ok (.aload_n 1, 1) := by decide +kernel
theorem d_X0_count_1 : decode cX0_count 1 = .ok (.getfield 16, 3) := by decide +kernel
theorem d_X0_count_4 : decode cX0_count 4 = .ok (.getfield 22, 3) := by decide +kernel
theorem d_X0_count_7 : decode cX0_count 7 = .ok (.bipush 8, 2) := by decide +kernel
theorem d_X0_count_9 : decode cX0_count 9 = .ok (.invokestatic 28, 3) := by decide +kernel
theorem d_X0_count_12 : decode cX0_count 12 = .ok (.iconst 1, 1) := by decide +kernel
theorem d_X0_count_13 : decode cX0_count 13 = .ok (.isub, 1) := by decide +kernel
theorem d_X0_count_14 : decode cX0_count 14 = .ok (.istore_n 2, 1) := by decide +kernel
theorem d_X0_count_15 : decode cX0_count 15 = .ok (.aload_n 0, 1) := by decide +kernel
theorem d_X0_count_16 : decode cX0_count 16 = .ok (.aload_n 1, 1) := by decide +kernel
theorem d_X0_count_17 : decode cX0_count 17 = .ok (.iload_n 2, 1) := by decide +kernel
theorem d_X0_count_18 : decode cX0_count 18 = .ok (.invokevirtual 34, 3) := by decide +kernel
theorem d_X0_count_21 : decode cX0_count 21 = .ok (.aload_n 0, 1) := by decide +kernel
theorem d_X0_count_22 : decode cX0_count 22 = .ok (.iload_n 2, 1) := by decide +kernel
theorem d_X0_count_23 : decode cX0_count 23 = .ok (.invokevirtual 38, 3) := by decide +kernel
theorem d_X0_count_26 : decode cX0_count 26 = .ok (.lstore_n 3, 1) := by decide +kernel
theorem d_X0_count_27 : decode cX0_count 27 = .ok (.iconst 0, 1) := by decide +kernel
theorem d_X0_count_28 : decode cX0_count 28 = .ok (.istore 5, 2) := by decide +kernel
theorem d_X0_count_30 : decode cX0_count 30 = .ok (.iload 5, 2) := by decide +kernel
theorem d_X0_count_32 : decode cX0_count 32 = .ok (.iload_n 2, 1) := by decide +kernel
theorem d_X0_count_33 : decode cX0_count 33 = .ok (.if_icmp .gt 54, 3) := by decide +kernel
theorem d_X0_count_36 : decode cX0_count 36 = .ok (.iconst 2, 1) := by decide +kernel
theorem d_X0_count_37 : decode cX0_count 37 = .ok (.istore 6, 2) := by decide +kernel
theorem d_X0_count_39 : decode cX0_count 39 = .ok (.iload 6, 2) := by decide +kernel
theorem d_X0_count_41 : decode cX0_count 41 = .ok (.aload_n 1, 1) := by decide +kernel
theorem d_X0_count_42 : decode cX0_count 42 = .ok (.getfield 42, 3) := by decide +kernel
theorem d_X0_count_45 : decode cX0_count 45 = .ok (.iload 5, 2) := by decide +kernel
theorem d_X0_count_47 : decode cX0_count 47 = .ok (.invokevirtual 46, 3) := by decide +kernel
theorem d_X0_count_50 : decode cX0_count 50 = .ok (.if_icmp .ge 31, 3) := by decide +kernel
theorem d_X0_count_53 : decode cX0_count 53 = .ok (.lload_n 3, 1) := by decide +kernel
theorem d_X0_count_54 : decode cX0_count 54 = .ok (.ldc2_w 54, 3) := by decide +kernel
theorem d_X0_count_57 : decode cX0_count 57 = .ok (.iload 6, 2) := by decide +kernel
theorem d_X0_count_59 : decode cX0_count 59 = .ok (.i2l, 1) := by decide +kernel
theorem d_X0_count_60 : decode cX0_count 60 = .ok (.ldiv, 1) := by decide +kernel
theorem d_X0_count_61 : decode cX0_count 61 = .ok (.lcmp, 1) := by decide +kernel
theorem d_X0_count_62 : decode cX0_count 62 = .ok (.ifCond .le 7, 3) := by decide +kernel
theorem d_X0_count_65 : decode cX0_count 65 = .ok (.ldc2_w 56, 3) := by decide +kernel
theorem d_X0_count_68 : decode cX0_count 68 = .ok (.lreturn, 1) := by decide +kernel
theorem d_X0_count_69 : decode cX0_count 69 = .ok (.lload_n 3, 1) := by decide +kernel
theorem d_X0_count_70 : decode cX0_count 70 = .ok (.iload 6, 2) := by decide +kernel
theorem d_X0_count_72 : decode cX0_count 72 = .ok (.i2l, 1) := by decide +kernel
theorem d_X0_count_73 : decode cX0_count 73 = .ok (.lmul, 1) := by decide +kernel
theorem d_X0_count_74 : decode cX0_count 74 = .ok (.lstore_n 3, 1) := by decide +kernel
theorem d_X0_count_75 : decode cX0_count 75 = .ok (.iinc 6 1, 3) := by decide +kernel
theorem d_X0_count_78 : decode cX0_count 78 = .ok (.goto (-39), 3) := by decide +kernel
theorem d_X0_count_81 : decode cX0_count 81 = .ok (.iinc 5 1, 3) := by decide +kernel
theorem d_X0_count_84 : decode cX0_count 84 = .ok (.goto (-54), 3) := by decide +kernel
theorem d_X0_count_87 : decode cX0_count 87 = .ok (.lload_n 3, 1) := by decide +kernel
theorem d_X0_count_88 : decode cX0_count 88 = .ok (.lreturn, 1) := by decide +kernel
def f_X0_count_39b (F : Nat) (kb30 : Int32 → Int64 → Int32 → sm_M → Option (Int64 × sm_M)) (kb39 : Int32 → Int64 → Int32 → Int32 → sm_M → Option (Int64 × sm_M)) (x2 : Int32) (x3 : Int64) (x5 : Int32) (x6 : Int32) (M : sm_M) : Option (Int64 × sm_M) := (f_X3_degree F 9 x5 M).bind fun q1 => if q1 ≤ x6 then (kb30 x2 x3 (x5 + 1) M) else (sm_g (sm_nzl x6.toInt64) (if (lg_cmp x3 ((9223372036854775807 : Int64) / x6.toInt64)) ≤ 0 then (kb39 x2 (x3 * x6.toInt64) x5 (x6 + 1) M) else (some ((-1 : Int64), M))))
set_option maxRecDepth 100000 in
set_option maxHeartbeats 4000000 in
theorem j_X0_count_39b {sk : List sm_Sh} (hx : sm_ext skX sk) (F : Nat) (kb30 : Int32 → Int64 → Int32 → sm_M → Option (Int64 × sm_M)) (kb39 : Int32 → Int64 → Int32 → Int32 → sm_M → Option (Int64 × sm_M)) (hkb30 : ∀ (x2 : Int32) (x3 : Int64) (x5 : Int32) (M : sm_M) (r : Int64 × sm_M), kb30 x2 x3 x5 M = some r → sm_J (md_X0_count, 2, sk, .inl (some (.long r.1)), r.2) 30 [none, some (.ref 5), some (.int x2), some (.long x3), none, some (.int x5), none] [] M) (hkb39 : ∀ (x2 : Int32) (x3 : Int64) (x5 : Int32) (x6 : Int32) (M : sm_M) (r : Int64 × sm_M), kb39 x2 x3 x5 x6 M = some r → sm_J (md_X0_count, 2, sk, .inl (some (.long r.1)), r.2) 39 [none, some (.ref 5), some (.int x2), some (.long x3), none, some (.int x5), some (.int x6)] [] M) : ∀ (x2 : Int32) (x3 : Int64) (x5 : Int32) (x6 : Int32) (M : sm_M) (r : Int64 × sm_M), f_X0_count_39b F kb30 kb39 x2 x3 x5 x6 M = some r → sm_J (md_X0_count, 2, sk, .inl (some (.long r.1)), r.2) 39 [none, some (.ref 5), some (.int x2), some (.long x3), none, some (.int x5), some (.int x6)] [] M := by
  intro x2 x3 x5 x6  M r h
  unfold f_X0_count_39b at h
  refine sm_iload (q := 41) d_X0_count_39 rfl rfl ?_
  refine sm_aload_n (q := 42) d_X0_count_41 rfl rfl ?_
  refine sm_getr (q := 45) d_X0_count_42 rfl fl_X0_42 (hx sx_5) rfl ?_
  refine sm_iload (q := 47) d_X0_count_45 rfl rfl ?_
  obtain ⟨q1, e1, h⟩ := sm_bd h
  refine sm_callV (q := 50) (d' := 0) [.int x6] [.int x5] d_X0_count_47 rfl lk_X0_46 (hx sx_9) rfl rfl rfl (Nat.le_of_ble_eq_true rfl) (Nat.le_of_ble_eq_true rfl) (c_X3_degree hx F 9 ⟨hx sx_9, hx sx_10, hx sx_11, hx sx_12⟩ x5 M _ e1) (st9 := [.int q1, .int x6]) rfl ?_
  refine sm_icmp_ge (q := 53) (t := 81) d_X0_count_50 rfl rfl (fun c2 => ?_) (fun c2 => ?_)
  · replace h := sm_it c2 h
    refine sm_iinc (q := 84) (v := (x5 + 1)) (lt := [none, some (.ref 5), some (.int x2), some (.long x3), none, some (.int (x5 + 1)), some (.int x6)]) d_X0_count_81 rfl rfl (ii_1 _) (Nat.le_of_ble_eq_true rfl) rfl rfl ?_
    refine sm_goto (t := 30) d_X0_count_84 rfl ?_
    refine sm_fg [6] ?_
    exact hkb30 x2 x3 (x5 + 1) M _ h
  · replace h := sm_if c2 h
    refine sm_lload_n (q := 54) d_X0_count_53 rfl rfl ?_
    refine sm_ldc2 (q := 57) (v := (9223372036854775807)) d_X0_count_54 rfl cn_X0_54 ?_
    refine sm_iload (q := 59) d_X0_count_57 rfl rfl ?_
    refine sm_i2l (q := 60) d_X0_count_59 rfl ?_
    obtain ⟨g3, h⟩ := sm_gt h
    refine sm_ldiv (q := 61) d_X0_count_60 rfl (sm_nzl_of g3) ?_
    refine sm_lcmp (q := 62) d_X0_count_61 rfl ?_
    refine sm_if_le (q := 65) (t := 69) d_X0_count_62 rfl rfl (fun c4 => ?_) (fun c4 => ?_)
    · replace h := sm_it c4 h
      refine sm_lload_n (q := 70) d_X0_count_69 rfl rfl ?_
      refine sm_iload (q := 72) d_X0_count_70 rfl rfl ?_
      refine sm_i2l (q := 73) d_X0_count_72 rfl ?_
      refine sm_lmul (q := 74) d_X0_count_73 rfl ?_
      refine sm_lstore_n (q := 75) (lt := [none, some (.ref 5), some (.int x2), some (.long (x3 * x6.toInt64)), none, some (.int x5), some (.int x6)]) d_X0_count_74 rfl (Nat.le_of_ble_eq_true rfl) rfl rfl ?_
      refine sm_iinc (q := 78) (v := (x6 + 1)) (lt := [none, some (.ref 5), some (.int x2), some (.long (x3 * x6.toInt64)), none, some (.int x5), some (.int (x6 + 1))]) d_X0_count_75 rfl rfl (ii_1 _) (Nat.le_of_ble_eq_true rfl) rfl rfl ?_
      refine sm_goto (t := 39) d_X0_count_78 rfl ?_
      exact hkb39 x2 (x3 * x6.toInt64) x5 (x6 + 1) M _ h
    · replace h := sm_if c4 h
      refine sm_ldc2 (q := 68) (v := (-1)) d_X0_count_65 rfl cn_X0_56 ?_
      obtain rfl := Option.some.inj h
      exact sm_lret d_X0_count_68 rfl rfl rfl
def f_X0_count_39 (F : Nat) (kb30 : Int32 → Int64 → Int32 → sm_M → Option (Int64 × sm_M)) (n : Nat) : Int32 → Int64 → Int32 → Int32 → sm_M → Option (Int64 × sm_M) := match n with
 | 0 => fun _ _ _ _ _ => none
 | n + 1 => f_X0_count_39b F kb30 (f_X0_count_39 F kb30 n)
theorem j_X0_count_39 {sk : List sm_Sh} (hx : sm_ext skX sk) (F : Nat) (kb30 : Int32 → Int64 → Int32 → sm_M → Option (Int64 × sm_M)) (hkb30 : ∀ (x2 : Int32) (x3 : Int64) (x5 : Int32) (M : sm_M) (r : Int64 × sm_M), kb30 x2 x3 x5 M = some r → sm_J (md_X0_count, 2, sk, .inl (some (.long r.1)), r.2) 30 [none, some (.ref 5), some (.int x2), some (.long x3), none, some (.int x5), none] [] M) : ∀ (n : Nat) (x2 : Int32) (x3 : Int64) (x5 : Int32) (x6 : Int32) (M : sm_M) (r : Int64 × sm_M), f_X0_count_39 F kb30 n x2 x3 x5 x6 M = some r → sm_J (md_X0_count, 2, sk, .inl (some (.long r.1)), r.2) 39 [none, some (.ref 5), some (.int x2), some (.long x3), none, some (.int x5), some (.int x6)] [] M := by
  intro n
  induction n with
  | zero => intro x2 x3 x5 x6  M r h; exact nomatch (show (none : Option (Int64 × sm_M)) = some r from h)
  | succ n ih => exact j_X0_count_39b hx F kb30 (f_X0_count_39 F kb30 n) hkb30 ih
def f_X0_count_30b (F : Nat) (kb30 : Int32 → Int64 → Int32 → sm_M → Option (Int64 × sm_M)) (x2 : Int32) (x3 : Int64) (x5 : Int32) (M : sm_M) : Option (Int64 × sm_M) := if x2 < x5 then (some (x3, M)) else (f_X0_count_39 F kb30 F x2 x3 x5 (2 : Int32) M)
set_option maxRecDepth 100000 in
set_option maxHeartbeats 4000000 in
theorem j_X0_count_30b {sk : List sm_Sh} (hx : sm_ext skX sk) (F : Nat) (kb30 : Int32 → Int64 → Int32 → sm_M → Option (Int64 × sm_M)) (hkb30 : ∀ (x2 : Int32) (x3 : Int64) (x5 : Int32) (M : sm_M) (r : Int64 × sm_M), kb30 x2 x3 x5 M = some r → sm_J (md_X0_count, 2, sk, .inl (some (.long r.1)), r.2) 30 [none, some (.ref 5), some (.int x2), some (.long x3), none, some (.int x5), none] [] M) : ∀ (x2 : Int32) (x3 : Int64) (x5 : Int32) (M : sm_M) (r : Int64 × sm_M), f_X0_count_30b F kb30 x2 x3 x5 M = some r → sm_J (md_X0_count, 2, sk, .inl (some (.long r.1)), r.2) 30 [none, some (.ref 5), some (.int x2), some (.long x3), none, some (.int x5), none] [] M := by
  intro x2 x3 x5  M r h
  unfold f_X0_count_30b at h
  refine sm_iload (q := 32) d_X0_count_30 rfl rfl ?_
  refine sm_iload_n (q := 33) d_X0_count_32 rfl rfl ?_
  refine sm_icmp_gt (q := 36) (t := 87) d_X0_count_33 rfl rfl (fun c1 => ?_) (fun c1 => ?_)
  · replace h := sm_it c1 h
    refine sm_lload_n (q := 88) d_X0_count_87 rfl rfl ?_
    obtain rfl := Option.some.inj h
    exact sm_lret d_X0_count_88 rfl rfl rfl
  · replace h := sm_if c1 h
    refine sm_iconst (q := 37) d_X0_count_36 rfl ci_2 ?_
    refine sm_istore (q := 39) (lt := [none, some (.ref 5), some (.int x2), some (.long x3), none, some (.int x5), some (.int (2 : Int32))]) d_X0_count_37 rfl (Nat.le_of_ble_eq_true rfl) rfl rfl ?_
    exact j_X0_count_39 hx F kb30 hkb30 F x2 x3 x5 (2 : Int32) M _ h
def f_X0_count_30 (F : Nat) (n : Nat) : Int32 → Int64 → Int32 → sm_M → Option (Int64 × sm_M) := match n with
 | 0 => fun _ _ _ _ => none
 | n + 1 => f_X0_count_30b F (f_X0_count_30 F n)
theorem j_X0_count_30 {sk : List sm_Sh} (hx : sm_ext skX sk) (F : Nat) : ∀ (n : Nat) (x2 : Int32) (x3 : Int64) (x5 : Int32) (M : sm_M) (r : Int64 × sm_M), f_X0_count_30 F n x2 x3 x5 M = some r → sm_J (md_X0_count, 2, sk, .inl (some (.long r.1)), r.2) 30 [none, some (.ref 5), some (.int x2), some (.long x3), none, some (.int x5), none] [] M := by
  intro n
  induction n with
  | zero => intro x2 x3 x5  M r h; exact nomatch (show (none : Option (Int64 × sm_M)) = some r from h)
  | succ n ih => exact j_X0_count_30b hx F (f_X0_count_30 F n) ih
def f_X0_count (F : Nat) (M : sm_M) : Option (Int64 × sm_M) := (f_X0_fillMatrix F ((if (8 : Int32) < (M.1 6 2) then (8 : Int32) else (M.1 6 2)) - (1 : Int32)) M).bind fun q1 => (f_X0_determinant F ((if (8 : Int32) < (M.1 6 2) then (8 : Int32) else (M.1 6 2)) - (1 : Int32)) q1).bind fun q2 => f_X0_count_30 F F ((if (8 : Int32) < (M.1 6 2) then (8 : Int32) else (M.1 6 2)) - (1 : Int32)) q2.1 (0 : Int32) q2.2
set_option maxRecDepth 100000 in
set_option maxHeartbeats 4000000 in
theorem j_X0_count {sk : List sm_Sh} (hx : sm_ext skX sk) (F : Nat) : ∀ (M : sm_M) (r : Int64 × sm_M), f_X0_count F M = some r → sm_J (md_X0_count, 2, sk, .inl (some (.long r.1)), r.2) 0 [some (.ref 67), some (.ref 5), none, none, none, none, none] [] M := by
  intro   M r h
  unfold f_X0_count at h
  refine sm_aload_n (q := 1) d_X0_count_0 rfl rfl ?_
  refine sm_getr (q := 4) d_X0_count_1 rfl fl_X0_16 (hx sx_5) rfl ?_
  refine sm_geti (q := 7) d_X0_count_4 rfl fl_X0_22 (hx sx_6) rfl ?_
  refine sm_bipush (q := 9) d_X0_count_7 rfl cb_8 ?_
  refine sm_mmin (q := 12) d_X0_count_9 rfl lk_X0_28 (Nat.le_of_ble_eq_true rfl) (Nat.le_of_ble_eq_true rfl) ?_
  refine sm_iconst (q := 13) d_X0_count_12 rfl ci_1 ?_
  refine sm_isub (q := 14) d_X0_count_13 rfl ?_
  refine sm_istore_n (q := 15) (lt := [some (.ref 67), some (.ref 5), some (.int ((if (8 : Int32) < (M.1 6 2) then (8 : Int32) else (M.1 6 2)) - (1 : Int32))), none, none, none, none]) d_X0_count_14 rfl (Nat.le_of_ble_eq_true rfl) rfl rfl ?_
  refine sm_aload_n (q := 16) d_X0_count_15 rfl rfl ?_
  refine sm_aload_n (q := 17) d_X0_count_16 rfl rfl ?_
  refine sm_iload_n (q := 18) d_X0_count_17 rfl rfl ?_
  obtain ⟨q1, e1, h⟩ := sm_bd h
  refine sm_callV (q := 21) (d' := 1) [] [.ref 5, .int ((if (8 : Int32) < (M.1 6 2) then (8 : Int32) else (M.1 6 2)) - (1 : Int32))] d_X0_count_18 rfl lk_X0_34 (hx sx_67) rfl rfl rfl (Nat.le_of_ble_eq_true rfl) (Nat.le_of_ble_eq_true rfl) (c_X0_fillMatrix hx F ((if (8 : Int32) < (M.1 6 2) then (8 : Int32) else (M.1 6 2)) - (1 : Int32)) M _ e1) (st9 := []) rfl ?_
  refine sm_aload_n (q := 22) d_X0_count_21 rfl rfl ?_
  refine sm_iload_n (q := 23) d_X0_count_22 rfl rfl ?_
  obtain ⟨q2, e2, h⟩ := sm_bd h
  refine sm_callV (q := 26) (d' := 0) [] [.int ((if (8 : Int32) < (M.1 6 2) then (8 : Int32) else (M.1 6 2)) - (1 : Int32))] d_X0_count_23 rfl lk_X0_38 (hx sx_67) rfl rfl rfl (Nat.le_of_ble_eq_true rfl) (Nat.le_of_ble_eq_true rfl) (c_X0_determinant hx F ((if (8 : Int32) < (M.1 6 2) then (8 : Int32) else (M.1 6 2)) - (1 : Int32)) q1 _ e2) (st9 := [.long q2.1]) rfl ?_
  refine sm_lstore_n (q := 27) (lt := [some (.ref 67), some (.ref 5), some (.int ((if (8 : Int32) < (M.1 6 2) then (8 : Int32) else (M.1 6 2)) - (1 : Int32))), some (.long q2.1), none, none, none]) d_X0_count_26 rfl (Nat.le_of_ble_eq_true rfl) rfl rfl ?_
  refine sm_iconst (q := 28) d_X0_count_27 rfl ci_0 ?_
  refine sm_istore (q := 30) (lt := [some (.ref 67), some (.ref 5), some (.int ((if (8 : Int32) < (M.1 6 2) then (8 : Int32) else (M.1 6 2)) - (1 : Int32))), some (.long q2.1), none, some (.int (0 : Int32)), none]) d_X0_count_28 rfl (Nat.le_of_ble_eq_true rfl) rfl rfl ?_
  refine sm_fg [0] ?_
  exact j_X0_count_30 hx F F ((if (8 : Int32) < (M.1 6 2) then (8 : Int32) else (M.1 6 2)) - (1 : Int32)) q2.1 (0 : Int32) q2.2 _ h
theorem c_X0_count {sk : List sm_Sh} (hx : sm_ext skX sk) (F : Nat) (M : sm_M) (r : Int64 × sm_M) (h : f_X0_count F M = some r) : sm_Ct yX0_count md_X0_count 2 sk [.ref 67, .ref 5] M (.inl (some (.long r.1))) r.2 := sm_enter 5 pn_X0 rfl (Nat.le_of_ble_eq_true rfl) rfl (j_X0_count hx F M r h)
/-! UniversalCycles$Unfolding.raiseWindow(III)Z -/
theorem d_X9_raiseWindow_0 : decode cX9_raiseWindow 0 = .ok (.aload_n 0, 1) := by decide +kernel
theorem d_X9_raiseWindow_1 : decode cX9_raiseWindow 1 = .ok (.getfield 12, 3) := by decide +kernel
theorem d_X9_raiseWindow_4 : decode cX9_raiseWindow 4 = .ok (.getfield 24, 3) := by decide +kernel
theorem d_X9_raiseWindow_7 : decode cX9_raiseWindow 7 = .ok (.ifCond .gt 5, 3) := by decide +kernel
theorem d_X9_raiseWindow_10 : decode cX9_raiseWindow 10 = .ok (.iconst 0, 1) := by decide +kernel
theorem d_X9_raiseWindow_11 : decode cX9_raiseWindow 11 = .ok (.ireturn, 1) := by decide +kernel
theorem d_X9_raiseWindow_12 : decode cX9_raiseWindow 12 = .ok (.iconst 0, 1) := by decide +kernel
theorem d_X9_raiseWindow_13 : decode cX9_raiseWindow 13 = .ok (.istore 4, 2) := by decide +kernel
theorem d_X9_raiseWindow_15 : decode cX9_raiseWindow 15 = .ok (.iconst 0, 1) := by decide +kernel
theorem d_X9_raiseWindow_16 : decode cX9_raiseWindow 16 = .ok (.istore 5, 2) := by decide +kernel
theorem d_X9_raiseWindow_18 : decode cX9_raiseWindow 18 = .ok (.iload 5, 2) := by decide +kernel
theorem d_X9_raiseWindow_20 : decode cX9_raiseWindow 20 = .ok (.iload_n 2, 1) := by decide +kernel
theorem d_X9_raiseWindow_21 : decode cX9_raiseWindow 21 = .ok (.if_icmp .ge 129, 3) := by decide +kernel
theorem d_X9_raiseWindow_24 : decode cX9_raiseWindow 24 = .ok (.iconst 0, 1) := by decide +kernel
theorem d_X9_raiseWindow_25 : decode cX9_raiseWindow 25 = .ok (.istore 6, 2) := by decide +kernel
theorem d_X9_raiseWindow_27 : decode cX9_raiseWindow 27 = .ok (.iload 6, 2) := by decide +kernel
theorem d_X9_raiseWindow_29 : decode cX9_raiseWindow 29 = .ok (.iload_n 2, 1) := by decide +kernel
theorem d_X9_raiseWindow_30 : decode cX9_raiseWindow 30 = .ok (.if_icmp .ge 114, 3) := by decide +kernel
theorem d_X9_raiseWindow_33 : decode cX9_raiseWindow 33 = .ok (.iload_n 3, 1) := by decide +kernel
theorem d_X9_raiseWindow_34 : decode cX9_raiseWindow 34 = .ok (.iload 5, 2) := by decide +kernel
theorem d_X9_raiseWindow_36 : decode cX9_raiseWindow 36 = .ok (.iadd, 1) := by decide +kernel
theorem d_X9_raiseWindow_37 : decode cX9_raiseWindow 37 = .ok (.aload_n 0, 1) := by decide +kernel
theorem d_X9_raiseWindow_38 : decode cX9_raiseWindow 38 = .ok (.getfield 12, 3) := by decide +kernel
theorem d_X9_raiseWindow_41 : decode cX9_raiseWindow 41 = .ok (.getfield 24, 3) := by decide +kernel
theorem d_X9_raiseWindow_44 : decode cX9_raiseWindow 44 = .ok (.irem, 1) := by decide +kernel
theorem d_X9_raiseWindow_45 : decode cX9_raiseWindow 45 = .ok (.istore 7, 2) := by decide +kernel
theorem d_X9_raiseWindow_47 : decode cX9_raiseWindow 47 = .ok (.iload_n 3, 1) := by decide +kernel
theorem d_X9_raiseWindow_48 : decode cX9_raiseWindow 48 = .ok (.iload 6, 2) := by decide +kernel
theorem d_X9_raiseWindow_50 : decode cX9_raiseWindow 50 = .ok (.iadd, 1) := by decide +kernel
theorem d_X9_raiseWindow_51 : decode cX9_raiseWindow 51 = .ok (.aload_n 0, 1) := by decide +kernel
theorem d_X9_raiseWindow_52 : decode cX9_raiseWindow 52 = .ok (.getfield 12, 3) := by decide +kernel
theorem d_X9_raiseWindow_55 : decode cX9_raiseWindow 55 = .ok (.getfield 24, 3) := by decide +kernel
theorem d_X9_raiseWindow_58 : decode cX9_raiseWindow 58 = .ok (.irem, 1) := by decide +kernel
theorem d_X9_raiseWindow_59 : decode cX9_raiseWindow 59 = .ok (.istore 8, 2) := by decide +kernel
theorem d_X9_raiseWindow_61 : decode cX9_raiseWindow 61 = .ok (.iload_n 1, 1) := by decide +kernel
theorem d_X9_raiseWindow_62 : decode cX9_raiseWindow 62 = .ok (.iload_n 2, 1) := by decide +kernel
theorem d_X9_raiseWindow_63 : decode cX9_raiseWindow 63 = .ok (.iload 5, 2) := by decide +kernel
theorem d_X9_raiseWindow_65 : decode cX9_raiseWindow 65 = .ok (.invokestatic 55, 3) := by decide +kernel
theorem d_X9_raiseWindow_68 : decode cX9_raiseWindow 68 = .ok (.iload_n 1, 1) := by decide +kernel
theorem d_X9_raiseWindow_69 : decode cX9_raiseWindow 69 = .ok (.iload_n 2, 1) := by decide +kernel
theorem d_X9_raiseWindow_70 : decode cX9_raiseWindow 70 = .ok (.iload 6, 2) := by decide +kernel
theorem d_X9_raiseWindow_72 : decode cX9_raiseWindow 72 = .ok (.invokestatic 55, 3) := by decide +kernel
theorem d_X9_raiseWindow_75 : decode cX9_raiseWindow 75 = .ok (.if_icmp .ge 7, 3) := by decide +kernel
theorem d_X9_raiseWindow_78 : decode cX9_raiseWindow 78 = .ok (.iconst 1, 1) := by decide +kernel
theorem d_X9_raiseWindow_79 : decode cX9_raiseWindow 79 = .ok (.goto 4, 3) := by decide +kernel
theorem d_X9_raiseWindow_82 : decode cX9_raiseWindow 82 = .ok (.iconst 0, 1) := by decide +kernel
theorem d_X9_raiseWindow_83 : decode cX9_raiseWindow 83 = .ok (.istore 9, 2) := by decide +kernel
theorem d_X9_raiseWindow_85 : decode cX9_raiseWindow 85 = .ok (.iload 9, 2) := by decide +kernel
theorem d_X9_raiseWindow_87 : decode cX9_raiseWindow 87 = .ok (.ifCond .eq 51, 3) := by decide +kernel
theorem d_X9_raiseWindow_90 : decode cX9_raiseWindow 90 = .ok (.aload_n 0, 1) := by decide +kernel
theorem d_X9_raiseWindow_91 : decode cX9_raiseWindow 91 = .ok (.getfield 12, 3) := by decide +kernel
theorem d_X9_raiseWindow_94 : decode cX9_raiseWindow 94 = .ok (.getfield 49, 3) := by decide +kernel
theorem d_X9_raiseWindow_97 : decode cX9_raiseWindow 97 = .ok (.iload 8, 2) := by decide +kernel
theorem d_X9_raiseWindow_99 : decode cX9_raiseWindow 99 = .ok (.iaload, 1) := by decide +kernel
theorem d_X9_raiseWindow_100 : decode cX9_raiseWindow 100 = .ok (.aload_n 0, 1) := by decide +kernel
theorem d_X9_raiseWindow_101 : decode cX9_raiseWindow 101 = .ok (.getfield 12, 3) := by decide +kernel
theorem d_X9_raiseWindow_104 : decode cX9_raiseWindow 104 = .ok (.getfield 49, 3) := by decide +kernel
theorem d_X9_raiseWindow_107 : decode cX9_raiseWindow 107 = .ok (.iload 7, 2) := by decide +kernel
theorem d_X9_raiseWindow_109 : decode cX9_raiseWindow 109 = .ok (.iaload, 1) := by decide +kernel
theorem d_X9_raiseWindow_110 : decode cX9_raiseWindow 110 = .ok (.if_icmp .gt 28, 3) := by decide +kernel
theorem d_X9_raiseWindow_113 : decode cX9_raiseWindow 113 = .ok (.aload_n 0, 1) := by decide +kernel
theorem d_X9_raiseWindow_114 : decode cX9_raiseWindow 114 = .ok (.getfield 12, 3) := by decide +kernel
theorem d_X9_raiseWindow_117 : decode cX9_raiseWindow 117 = .ok (.getfield 49, 3) := by decide +kernel
theorem d_X9_raiseWindow_120 : decode cX9_raiseWindow 120 = .ok (.iload 8, 2) := by decide +kernel
theorem d_X9_raiseWindow_122 : decode cX9_raiseWindow 122 = .ok (.aload_n 0, 1) := by decide +kernel
theorem d_X9_raiseWindow_123 : decode cX9_raiseWindow 123 = .ok (.getfield 12, 3) := by decide +kernel
theorem d_X9_raiseWindow_126 : decode cX9_raiseWindow 126 = .ok (.getfield 49, 3) := by decide +kernel
theorem d_X9_raiseWindow_129 : decode cX9_raiseWindow 129 = .ok (.iload 7, 2) := by decide +kernel
theorem d_X9_raiseWindow_131 : decode cX9_raiseWindow 131 = .ok (.iaload, 1) := by decide +kernel
theorem d_X9_raiseWindow_132 : decode cX9_raiseWindow 132 = .ok (.iconst 1, 1) := by decide +kernel
theorem d_X9_raiseWindow_133 : decode cX9_raiseWindow 133 = .ok (.iadd, 1) := by decide +kernel
theorem d_X9_raiseWindow_134 : decode cX9_raiseWindow 134 = .ok (.iastore, 1) := by decide +kernel
theorem d_X9_raiseWindow_135 : decode cX9_raiseWindow 135 = .ok (.iconst 1, 1) := by decide +kernel
theorem d_X9_raiseWindow_136 : decode cX9_raiseWindow 136 = .ok (.istore 4, 2) := by decide +kernel
theorem d_X9_raiseWindow_138 : decode cX9_raiseWindow 138 = .ok (.iinc 6 1, 3) := by decide +kernel
theorem d_X9_raiseWindow_141 : decode cX9_raiseWindow 141 = .ok (.goto (-114), 3) := by decide +kernel
theorem d_X9_raiseWindow_144 : decode cX9_raiseWindow 144 = .ok (.iinc 5 1, 3) := by decide +kernel
theorem d_X9_raiseWindow_147 : decode cX9_raiseWindow 147 = .ok (.goto (-129), 3) := by decide +kernel
theorem d_X9_raiseWindow_150 : decode cX9_raiseWindow 150 = .ok (.iload 4, 2) := by decide +kernel
theorem d_X9_raiseWindow_152 : decode cX9_raiseWindow 152 = .ok (.ireturn, 1) := by decide +kernel
def f_X9_raiseWindow_138 (F : Nat) (kb18 : Int32 → Int32 → Int32 → Int32 → Int32 → sm_M → Option (Int32 × sm_M)) (kb27 : Int32 → Int32 → Int32 → Int32 → Int32 → Int32 → sm_M → Option (Int32 × sm_M)) (x1 : Int32) (x2 : Int32) (x3 : Int32) (x4 : Int32) (x5 : Int32) (x6 : Int32) (M : sm_M) : Option (Int32 × sm_M) := kb27 x1 x2 x3 x4 x5 (x6 + 1) M
set_option maxRecDepth 100000 in
set_option maxHeartbeats 4000000 in
theorem j_X9_raiseWindow_138 {sk : List sm_Sh} (hx : sm_ext skX sk) (F : Nat) (kb18 : Int32 → Int32 → Int32 → Int32 → Int32 → sm_M → Option (Int32 × sm_M)) (kb27 : Int32 → Int32 → Int32 → Int32 → Int32 → Int32 → sm_M → Option (Int32 × sm_M)) (hkb18 : ∀ (x1 : Int32) (x2 : Int32) (x3 : Int32) (x4 : Int32) (x5 : Int32) (M : sm_M) (r : Int32 × sm_M), kb18 x1 x2 x3 x4 x5 M = some r → sm_J (md_X9_raiseWindow, 1, sk, .inl (some (.int r.1)), r.2) 18 [some (.ref 64), some (.int x1), some (.int x2), some (.int x3), some (.int x4), some (.int x5), none, none, none, none] [] M) (hkb27 : ∀ (x1 : Int32) (x2 : Int32) (x3 : Int32) (x4 : Int32) (x5 : Int32) (x6 : Int32) (M : sm_M) (r : Int32 × sm_M), kb27 x1 x2 x3 x4 x5 x6 M = some r → sm_J (md_X9_raiseWindow, 1, sk, .inl (some (.int r.1)), r.2) 27 [some (.ref 64), some (.int x1), some (.int x2), some (.int x3), some (.int x4), some (.int x5), some (.int x6), none, none, none] [] M) : ∀ (x1 : Int32) (x2 : Int32) (x3 : Int32) (x4 : Int32) (x5 : Int32) (x6 : Int32) (M : sm_M) (r : Int32 × sm_M), f_X9_raiseWindow_138 F kb18 kb27 x1 x2 x3 x4 x5 x6 M = some r → sm_J (md_X9_raiseWindow, 1, sk, .inl (some (.int r.1)), r.2) 138 [some (.ref 64), some (.int x1), some (.int x2), some (.int x3), some (.int x4), some (.int x5), some (.int x6), none, none, none] [] M := by
  intro x1 x2 x3 x4 x5 x6  M r h
  unfold f_X9_raiseWindow_138 at h
  refine sm_iinc (q := 141) (v := (x6 + 1)) (lt := [some (.ref 64), some (.int x1), some (.int x2), some (.int x3), some (.int x4), some (.int x5), some (.int (x6 + 1)), none, none, none]) d_X9_raiseWindow_138 rfl rfl (ii_1 _) (Nat.le_of_ble_eq_true rfl) rfl rfl ?_
  refine sm_goto (t := 27) d_X9_raiseWindow_141 rfl ?_
  exact hkb27 x1 x2 x3 x4 x5 (x6 + 1) M _ h
def f_X9_raiseWindow_83 (F : Nat) (kb18 : Int32 → Int32 → Int32 → Int32 → Int32 → sm_M → Option (Int32 × sm_M)) (kb27 : Int32 → Int32 → Int32 → Int32 → Int32 → Int32 → sm_M → Option (Int32 × sm_M)) (x1 : Int32) (x2 : Int32) (x3 : Int32) (x4 : Int32) (x5 : Int32) (x6 : Int32) (x7 : Int32) (x8 : Int32) (y0 : Int32) (M : sm_M) : Option (Int32 × sm_M) := if y0 = 0 then (f_X9_raiseWindow_138 F kb18 kb27 x1 x2 x3 x4 x5 x6 M) else (sm_g (sm_ib x8 240) (sm_g (sm_ib x7 240) (if (M.1 66 x7.toNatClampNeg) < (M.1 66 x8.toNatClampNeg) then (f_X9_raiseWindow_138 F kb18 kb27 x1 x2 x3 x4 x5 x6 M) else (sm_g (sm_ib x7 240) (sm_g (sm_ib x8 240) (f_X9_raiseWindow_138 F kb18 kb27 x1 x2 x3 (1 : Int32) x5 x6 ((sm_mi M 66 x8.toNatClampNeg ((M.1 66 x7.toNatClampNeg) + (1 : Int32))))))))))
set_option maxRecDepth 100000 in
set_option maxHeartbeats 4000000 in
theorem j_X9_raiseWindow_83 {sk : List sm_Sh} (hx : sm_ext skX sk) (F : Nat) (kb18 : Int32 → Int32 → Int32 → Int32 → Int32 → sm_M → Option (Int32 × sm_M)) (kb27 : Int32 → Int32 → Int32 → Int32 → Int32 → Int32 → sm_M → Option (Int32 × sm_M)) (hkb18 : ∀ (x1 : Int32) (x2 : Int32) (x3 : Int32) (x4 : Int32) (x5 : Int32) (M : sm_M) (r : Int32 × sm_M), kb18 x1 x2 x3 x4 x5 M = some r → sm_J (md_X9_raiseWindow, 1, sk, .inl (some (.int r.1)), r.2) 18 [some (.ref 64), some (.int x1), some (.int x2), some (.int x3), some (.int x4), some (.int x5), none, none, none, none] [] M) (hkb27 : ∀ (x1 : Int32) (x2 : Int32) (x3 : Int32) (x4 : Int32) (x5 : Int32) (x6 : Int32) (M : sm_M) (r : Int32 × sm_M), kb27 x1 x2 x3 x4 x5 x6 M = some r → sm_J (md_X9_raiseWindow, 1, sk, .inl (some (.int r.1)), r.2) 27 [some (.ref 64), some (.int x1), some (.int x2), some (.int x3), some (.int x4), some (.int x5), some (.int x6), none, none, none] [] M) : ∀ (x1 : Int32) (x2 : Int32) (x3 : Int32) (x4 : Int32) (x5 : Int32) (x6 : Int32) (x7 : Int32) (x8 : Int32) (y0 : Int32) (M : sm_M) (r : Int32 × sm_M), f_X9_raiseWindow_83 F kb18 kb27 x1 x2 x3 x4 x5 x6 x7 x8 y0 M = some r → sm_J (md_X9_raiseWindow, 1, sk, .inl (some (.int r.1)), r.2) 83 [some (.ref 64), some (.int x1), some (.int x2), some (.int x3), some (.int x4), some (.int x5), some (.int x6), some (.int x7), some (.int x8), none] [.int y0] M := by
  intro x1 x2 x3 x4 x5 x6 x7 x8 y0  M r h
  unfold f_X9_raiseWindow_83 at h
  refine sm_istore (q := 85) (lt := [some (.ref 64), some (.int x1), some (.int x2), some (.int x3), some (.int x4), some (.int x5), some (.int x6), some (.int x7), some (.int x8), some (.int y0)]) d_X9_raiseWindow_83 rfl (Nat.le_of_ble_eq_true rfl) rfl rfl ?_
  refine sm_iload (q := 87) d_X9_raiseWindow_85 rfl rfl ?_
  refine sm_if_eq (q := 90) (t := 138) d_X9_raiseWindow_87 rfl rfl (fun c1 => ?_) (fun c1 => ?_)
  · replace h := sm_it c1 h
    refine sm_fg [7, 8, 9] ?_
    exact j_X9_raiseWindow_138 hx F kb18 kb27 hkb18 hkb27 x1 x2 x3 x4 x5 x6 M _ h
  · replace h := sm_if c1 h
    refine sm_aload_n (q := 91) d_X9_raiseWindow_90 rfl rfl ?_
    refine sm_getr (q := 94) d_X9_raiseWindow_91 rfl fl_X9_12 (hx sx_64) rfl ?_
    refine sm_getr (q := 97) d_X9_raiseWindow_94 rfl fl_X9_49 (hx sx_65) rfl ?_
    refine sm_iload (q := 99) d_X9_raiseWindow_97 rfl rfl ?_
    obtain ⟨g2, h⟩ := sm_gt h
    refine sm_iaload (q := 100) d_X9_raiseWindow_99 rfl (hx sx_66) (sm_ib_of g2) ?_
    refine sm_aload_n (q := 101) d_X9_raiseWindow_100 rfl rfl ?_
    refine sm_getr (q := 104) d_X9_raiseWindow_101 rfl fl_X9_12 (hx sx_64) rfl ?_
    refine sm_getr (q := 107) d_X9_raiseWindow_104 rfl fl_X9_49 (hx sx_65) rfl ?_
    refine sm_iload (q := 109) d_X9_raiseWindow_107 rfl rfl ?_
    obtain ⟨g3, h⟩ := sm_gt h
    refine sm_iaload (q := 110) d_X9_raiseWindow_109 rfl (hx sx_66) (sm_ib_of g3) ?_
    refine sm_icmp_gt (q := 113) (t := 138) d_X9_raiseWindow_110 rfl rfl (fun c4 => ?_) (fun c4 => ?_)
    · replace h := sm_it c4 h
      refine sm_fg [7, 8, 9] ?_
      exact j_X9_raiseWindow_138 hx F kb18 kb27 hkb18 hkb27 x1 x2 x3 x4 x5 x6 M _ h
    · replace h := sm_if c4 h
      refine sm_aload_n (q := 114) d_X9_raiseWindow_113 rfl rfl ?_
      refine sm_getr (q := 117) d_X9_raiseWindow_114 rfl fl_X9_12 (hx sx_64) rfl ?_
      refine sm_getr (q := 120) d_X9_raiseWindow_117 rfl fl_X9_49 (hx sx_65) rfl ?_
      refine sm_iload (q := 122) d_X9_raiseWindow_120 rfl rfl ?_
      refine sm_aload_n (q := 123) d_X9_raiseWindow_122 rfl rfl ?_
      refine sm_getr (q := 126) d_X9_raiseWindow_123 rfl fl_X9_12 (hx sx_64) rfl ?_
      refine sm_getr (q := 129) d_X9_raiseWindow_126 rfl fl_X9_49 (hx sx_65) rfl ?_
      refine sm_iload (q := 131) d_X9_raiseWindow_129 rfl rfl ?_
      obtain ⟨g5, h⟩ := sm_gt h
      refine sm_iaload (q := 132) d_X9_raiseWindow_131 rfl (hx sx_66) (sm_ib_of g5) ?_
      refine sm_iconst (q := 133) d_X9_raiseWindow_132 rfl ci_1 ?_
      refine sm_iadd (q := 134) d_X9_raiseWindow_133 rfl ?_
      obtain ⟨g6, h⟩ := sm_gt h
      refine sm_iastore (q := 135) d_X9_raiseWindow_134 rfl (hx sx_66) (sm_ib_of g6) ?_
      refine sm_iconst (q := 136) d_X9_raiseWindow_135 rfl ci_1 ?_
      refine sm_istore (q := 138) (lt := [some (.ref 64), some (.int x1), some (.int x2), some (.int x3), some (.int (1 : Int32)), some (.int x5), some (.int x6), some (.int x7), some (.int x8), some (.int y0)]) d_X9_raiseWindow_136 rfl (Nat.le_of_ble_eq_true rfl) rfl rfl ?_
      refine sm_fg [7, 8, 9] ?_
      exact j_X9_raiseWindow_138 hx F kb18 kb27 hkb18 hkb27 x1 x2 x3 (1 : Int32) x5 x6 ((sm_mi M 66 x8.toNatClampNeg ((M.1 66 x7.toNatClampNeg) + (1 : Int32)))) _ h
def f_X9_raiseWindow_27b (F : Nat) (kb18 : Int32 → Int32 → Int32 → Int32 → Int32 → sm_M → Option (Int32 × sm_M)) (kb27 : Int32 → Int32 → Int32 → Int32 → Int32 → Int32 → sm_M → Option (Int32 × sm_M)) (x1 : Int32) (x2 : Int32) (x3 : Int32) (x4 : Int32) (x5 : Int32) (x6 : Int32) (M : sm_M) : Option (Int32 × sm_M) := if x2 ≤ x6 then (kb18 x1 x2 x3 x4 (x5 + 1) M) else (sm_g (sm_nz (M.1 65 1)) (sm_g (sm_nz (M.1 65 1)) ((f_X1_numberAt F x1 x2 x5 M).bind fun q4 => (f_X1_numberAt F x1 x2 x6 M).bind fun q5 => if q5 ≤ q4 then (f_X9_raiseWindow_83 F kb18 kb27 x1 x2 x3 x4 x5 x6 ((x3 + x5) - (x3 + x5) / (M.1 65 1) * (M.1 65 1)) ((x3 + x6) - (x3 + x6) / (M.1 65 1) * (M.1 65 1)) (0 : Int32) M) else (f_X9_raiseWindow_83 F kb18 kb27 x1 x2 x3 x4 x5 x6 ((x3 + x5) - (x3 + x5) / (M.1 65 1) * (M.1 65 1)) ((x3 + x6) - (x3 + x6) / (M.1 65 1) * (M.1 65 1)) (1 : Int32) M))))
set_option maxRecDepth 100000 in
set_option maxHeartbeats 4000000 in
theorem j_X9_raiseWindow_27b {sk : List sm_Sh} (hx : sm_ext skX sk) (F : Nat) (kb18 : Int32 → Int32 → Int32 → Int32 → Int32 → sm_M → Option (Int32 × sm_M)) (kb27 : Int32 → Int32 → Int32 → Int32 → Int32 → Int32 → sm_M → Option (Int32 × sm_M)) (hkb18 : ∀ (x1 : Int32) (x2 : Int32) (x3 : Int32) (x4 : Int32) (x5 : Int32) (M : sm_M) (r : Int32 × sm_M), kb18 x1 x2 x3 x4 x5 M = some r → sm_J (md_X9_raiseWindow, 1, sk, .inl (some (.int r.1)), r.2) 18 [some (.ref 64), some (.int x1), some (.int x2), some (.int x3), some (.int x4), some (.int x5), none, none, none, none] [] M) (hkb27 : ∀ (x1 : Int32) (x2 : Int32) (x3 : Int32) (x4 : Int32) (x5 : Int32) (x6 : Int32) (M : sm_M) (r : Int32 × sm_M), kb27 x1 x2 x3 x4 x5 x6 M = some r → sm_J (md_X9_raiseWindow, 1, sk, .inl (some (.int r.1)), r.2) 27 [some (.ref 64), some (.int x1), some (.int x2), some (.int x3), some (.int x4), some (.int x5), some (.int x6), none, none, none] [] M) : ∀ (x1 : Int32) (x2 : Int32) (x3 : Int32) (x4 : Int32) (x5 : Int32) (x6 : Int32) (M : sm_M) (r : Int32 × sm_M), f_X9_raiseWindow_27b F kb18 kb27 x1 x2 x3 x4 x5 x6 M = some r → sm_J (md_X9_raiseWindow, 1, sk, .inl (some (.int r.1)), r.2) 27 [some (.ref 64), some (.int x1), some (.int x2), some (.int x3), some (.int x4), some (.int x5), some (.int x6), none, none, none] [] M := by
  intro x1 x2 x3 x4 x5 x6  M r h
  unfold f_X9_raiseWindow_27b at h
  refine sm_iload (q := 29) d_X9_raiseWindow_27 rfl rfl ?_
  refine sm_iload_n (q := 30) d_X9_raiseWindow_29 rfl rfl ?_
  refine sm_icmp_ge (q := 33) (t := 144) d_X9_raiseWindow_30 rfl rfl (fun c1 => ?_) (fun c1 => ?_)
  · replace h := sm_it c1 h
    refine sm_iinc (q := 147) (v := (x5 + 1)) (lt := [some (.ref 64), some (.int x1), some (.int x2), some (.int x3), some (.int x4), some (.int (x5 + 1)), some (.int x6), none, none, none]) d_X9_raiseWindow_144 rfl rfl (ii_1 _) (Nat.le_of_ble_eq_true rfl) rfl rfl ?_
    refine sm_goto (t := 18) d_X9_raiseWindow_147 rfl ?_
    refine sm_fg [6] ?_
    exact hkb18 x1 x2 x3 x4 (x5 + 1) M _ h
  · replace h := sm_if c1 h
    refine sm_iload_n (q := 34) d_X9_raiseWindow_33 rfl rfl ?_
    refine sm_iload (q := 36) d_X9_raiseWindow_34 rfl rfl ?_
    refine sm_iadd (q := 37) d_X9_raiseWindow_36 rfl ?_
    refine sm_aload_n (q := 38) d_X9_raiseWindow_37 rfl rfl ?_
    refine sm_getr (q := 41) d_X9_raiseWindow_38 rfl fl_X9_12 (hx sx_64) rfl ?_
    refine sm_geti (q := 44) d_X9_raiseWindow_41 rfl fl_X9_24 (hx sx_65) rfl ?_
    obtain ⟨g2, h⟩ := sm_gt h
    refine sm_irem (q := 45) d_X9_raiseWindow_44 rfl (sm_nz_of g2) ?_
    refine sm_istore (q := 47) (lt := [some (.ref 64), some (.int x1), some (.int x2), some (.int x3), some (.int x4), some (.int x5), some (.int x6), some (.int ((x3 + x5) - (x3 + x5) / (M.1 65 1) * (M.1 65 1))), none, none]) d_X9_raiseWindow_45 rfl (Nat.le_of_ble_eq_true rfl) rfl rfl ?_
    refine sm_iload_n (q := 48) d_X9_raiseWindow_47 rfl rfl ?_
    refine sm_iload (q := 50) d_X9_raiseWindow_48 rfl rfl ?_
    refine sm_iadd (q := 51) d_X9_raiseWindow_50 rfl ?_
    refine sm_aload_n (q := 52) d_X9_raiseWindow_51 rfl rfl ?_
    refine sm_getr (q := 55) d_X9_raiseWindow_52 rfl fl_X9_12 (hx sx_64) rfl ?_
    refine sm_geti (q := 58) d_X9_raiseWindow_55 rfl fl_X9_24 (hx sx_65) rfl ?_
    obtain ⟨g3, h⟩ := sm_gt h
    refine sm_irem (q := 59) d_X9_raiseWindow_58 rfl (sm_nz_of g3) ?_
    refine sm_istore (q := 61) (lt := [some (.ref 64), some (.int x1), some (.int x2), some (.int x3), some (.int x4), some (.int x5), some (.int x6), some (.int ((x3 + x5) - (x3 + x5) / (M.1 65 1) * (M.1 65 1))), some (.int ((x3 + x6) - (x3 + x6) / (M.1 65 1) * (M.1 65 1))), none]) d_X9_raiseWindow_59 rfl (Nat.le_of_ble_eq_true rfl) rfl rfl ?_
    refine sm_iload_n (q := 62) d_X9_raiseWindow_61 rfl rfl ?_
    refine sm_iload_n (q := 63) d_X9_raiseWindow_62 rfl rfl ?_
    refine sm_iload (q := 65) d_X9_raiseWindow_63 rfl rfl ?_
    obtain ⟨q4, e4, h⟩ := sm_bd h
    refine sm_callS (q := 68) (d' := 0) [] [.int x1, .int x2, .int x5] d_X9_raiseWindow_65 rfl lk_X9_55 rfl (Nat.le_of_ble_eq_true rfl) (Nat.le_of_ble_eq_true rfl) (c_X1_numberAt hx F x1 x2 x5 M _ e4) (st9 := [.int q4]) rfl ?_
    refine sm_iload_n (q := 69) d_X9_raiseWindow_68 rfl rfl ?_
    refine sm_iload_n (q := 70) d_X9_raiseWindow_69 rfl rfl ?_
    refine sm_iload (q := 72) d_X9_raiseWindow_70 rfl rfl ?_
    obtain ⟨q5, e5, h⟩ := sm_bd h
    refine sm_callS (q := 75) (d' := 0) [.int q4] [.int x1, .int x2, .int x6] d_X9_raiseWindow_72 rfl lk_X9_55 rfl (Nat.le_of_ble_eq_true rfl) (Nat.le_of_ble_eq_true rfl) (c_X1_numberAt hx F x1 x2 x6 M _ e5) (st9 := [.int q5, .int q4]) rfl ?_
    refine sm_icmp_ge (q := 78) (t := 82) d_X9_raiseWindow_75 rfl rfl (fun c6 => ?_) (fun c6 => ?_)
    · replace h := sm_it c6 h
      refine sm_iconst (q := 83) d_X9_raiseWindow_82 rfl ci_0 ?_
      exact j_X9_raiseWindow_83 hx F kb18 kb27 hkb18 hkb27 x1 x2 x3 x4 x5 x6 ((x3 + x5) - (x3 + x5) / (M.1 65 1) * (M.1 65 1)) ((x3 + x6) - (x3 + x6) / (M.1 65 1) * (M.1 65 1)) (0 : Int32) M _ h
    · replace h := sm_if c6 h
      refine sm_iconst (q := 79) d_X9_raiseWindow_78 rfl ci_1 ?_
      refine sm_goto (t := 83) d_X9_raiseWindow_79 rfl ?_
      exact j_X9_raiseWindow_83 hx F kb18 kb27 hkb18 hkb27 x1 x2 x3 x4 x5 x6 ((x3 + x5) - (x3 + x5) / (M.1 65 1) * (M.1 65 1)) ((x3 + x6) - (x3 + x6) / (M.1 65 1) * (M.1 65 1)) (1 : Int32) M _ h
def f_X9_raiseWindow_27 (F : Nat) (kb18 : Int32 → Int32 → Int32 → Int32 → Int32 → sm_M → Option (Int32 × sm_M)) (n : Nat) : Int32 → Int32 → Int32 → Int32 → Int32 → Int32 → sm_M → Option (Int32 × sm_M) := match n with
 | 0 => fun _ _ _ _ _ _ _ => none
 | n + 1 => f_X9_raiseWindow_27b F kb18 (f_X9_raiseWindow_27 F kb18 n)
theorem j_X9_raiseWindow_27 {sk : List sm_Sh} (hx : sm_ext skX sk) (F : Nat) (kb18 : Int32 → Int32 → Int32 → Int32 → Int32 → sm_M → Option (Int32 × sm_M)) (hkb18 : ∀ (x1 : Int32) (x2 : Int32) (x3 : Int32) (x4 : Int32) (x5 : Int32) (M : sm_M) (r : Int32 × sm_M), kb18 x1 x2 x3 x4 x5 M = some r → sm_J (md_X9_raiseWindow, 1, sk, .inl (some (.int r.1)), r.2) 18 [some (.ref 64), some (.int x1), some (.int x2), some (.int x3), some (.int x4), some (.int x5), none, none, none, none] [] M) : ∀ (n : Nat) (x1 : Int32) (x2 : Int32) (x3 : Int32) (x4 : Int32) (x5 : Int32) (x6 : Int32) (M : sm_M) (r : Int32 × sm_M), f_X9_raiseWindow_27 F kb18 n x1 x2 x3 x4 x5 x6 M = some r → sm_J (md_X9_raiseWindow, 1, sk, .inl (some (.int r.1)), r.2) 27 [some (.ref 64), some (.int x1), some (.int x2), some (.int x3), some (.int x4), some (.int x5), some (.int x6), none, none, none] [] M := by
  intro n
  induction n with
  | zero => intro x1 x2 x3 x4 x5 x6  M r h; exact nomatch (show (none : Option (Int32 × sm_M)) = some r from h)
  | succ n ih => exact j_X9_raiseWindow_27b hx F kb18 (f_X9_raiseWindow_27 F kb18 n) hkb18 ih
def f_X9_raiseWindow_18b (F : Nat) (kb18 : Int32 → Int32 → Int32 → Int32 → Int32 → sm_M → Option (Int32 × sm_M)) (x1 : Int32) (x2 : Int32) (x3 : Int32) (x4 : Int32) (x5 : Int32) (M : sm_M) : Option (Int32 × sm_M) := if x2 ≤ x5 then (sm_g (sm_nar .boolean x4) (some (x4, M))) else (f_X9_raiseWindow_27 F kb18 F x1 x2 x3 x4 x5 (0 : Int32) M)
set_option maxRecDepth 100000 in
set_option maxHeartbeats 4000000 in
theorem j_X9_raiseWindow_18b {sk : List sm_Sh} (hx : sm_ext skX sk) (F : Nat) (kb18 : Int32 → Int32 → Int32 → Int32 → Int32 → sm_M → Option (Int32 × sm_M)) (hkb18 : ∀ (x1 : Int32) (x2 : Int32) (x3 : Int32) (x4 : Int32) (x5 : Int32) (M : sm_M) (r : Int32 × sm_M), kb18 x1 x2 x3 x4 x5 M = some r → sm_J (md_X9_raiseWindow, 1, sk, .inl (some (.int r.1)), r.2) 18 [some (.ref 64), some (.int x1), some (.int x2), some (.int x3), some (.int x4), some (.int x5), none, none, none, none] [] M) : ∀ (x1 : Int32) (x2 : Int32) (x3 : Int32) (x4 : Int32) (x5 : Int32) (M : sm_M) (r : Int32 × sm_M), f_X9_raiseWindow_18b F kb18 x1 x2 x3 x4 x5 M = some r → sm_J (md_X9_raiseWindow, 1, sk, .inl (some (.int r.1)), r.2) 18 [some (.ref 64), some (.int x1), some (.int x2), some (.int x3), some (.int x4), some (.int x5), none, none, none, none] [] M := by
  intro x1 x2 x3 x4 x5  M r h
  unfold f_X9_raiseWindow_18b at h
  refine sm_iload (q := 20) d_X9_raiseWindow_18 rfl rfl ?_
  refine sm_iload_n (q := 21) d_X9_raiseWindow_20 rfl rfl ?_
  refine sm_icmp_ge (q := 24) (t := 150) d_X9_raiseWindow_21 rfl rfl (fun c1 => ?_) (fun c1 => ?_)
  · replace h := sm_it c1 h
    refine sm_iload (q := 152) d_X9_raiseWindow_150 rfl rfl ?_
    obtain ⟨g2, h⟩ := sm_gt h
    obtain rfl := Option.some.inj h
    exact sm_iret d_X9_raiseWindow_152 rfl (sm_nar_of g2).1 rfl rfl
  · replace h := sm_if c1 h
    refine sm_iconst (q := 25) d_X9_raiseWindow_24 rfl ci_0 ?_
    refine sm_istore (q := 27) (lt := [some (.ref 64), some (.int x1), some (.int x2), some (.int x3), some (.int x4), some (.int x5), some (.int (0 : Int32)), none, none, none]) d_X9_raiseWindow_25 rfl (Nat.le_of_ble_eq_true rfl) rfl rfl ?_
    exact j_X9_raiseWindow_27 hx F kb18 hkb18 F x1 x2 x3 x4 x5 (0 : Int32) M _ h
def f_X9_raiseWindow_18 (F : Nat) (n : Nat) : Int32 → Int32 → Int32 → Int32 → Int32 → sm_M → Option (Int32 × sm_M) := match n with
 | 0 => fun _ _ _ _ _ _ => none
 | n + 1 => f_X9_raiseWindow_18b F (f_X9_raiseWindow_18 F n)
theorem j_X9_raiseWindow_18 {sk : List sm_Sh} (hx : sm_ext skX sk) (F : Nat) : ∀ (n : Nat) (x1 : Int32) (x2 : Int32) (x3 : Int32) (x4 : Int32) (x5 : Int32) (M : sm_M) (r : Int32 × sm_M), f_X9_raiseWindow_18 F n x1 x2 x3 x4 x5 M = some r → sm_J (md_X9_raiseWindow, 1, sk, .inl (some (.int r.1)), r.2) 18 [some (.ref 64), some (.int x1), some (.int x2), some (.int x3), some (.int x4), some (.int x5), none, none, none, none] [] M := by
  intro n
  induction n with
  | zero => intro x1 x2 x3 x4 x5  M r h; exact nomatch (show (none : Option (Int32 × sm_M)) = some r from h)
  | succ n ih => exact j_X9_raiseWindow_18b hx F (f_X9_raiseWindow_18 F n) ih
def f_X9_raiseWindow (F : Nat) (x1 : Int32) (x2 : Int32) (x3 : Int32) (M : sm_M) : Option (Int32 × sm_M) := if 0 < (M.1 65 1) then (f_X9_raiseWindow_18 F F x1 x2 x3 (0 : Int32) (0 : Int32) M) else (some ((0 : Int32), M))
set_option maxRecDepth 100000 in
set_option maxHeartbeats 4000000 in
theorem j_X9_raiseWindow {sk : List sm_Sh} (hx : sm_ext skX sk) (F : Nat) : ∀ (x1 : Int32) (x2 : Int32) (x3 : Int32) (M : sm_M) (r : Int32 × sm_M), f_X9_raiseWindow F x1 x2 x3 M = some r → sm_J (md_X9_raiseWindow, 1, sk, .inl (some (.int r.1)), r.2) 0 [some (.ref 64), some (.int x1), some (.int x2), some (.int x3), none, none, none, none, none, none] [] M := by
  intro x1 x2 x3  M r h
  unfold f_X9_raiseWindow at h
  refine sm_aload_n (q := 1) d_X9_raiseWindow_0 rfl rfl ?_
  refine sm_getr (q := 4) d_X9_raiseWindow_1 rfl fl_X9_12 (hx sx_64) rfl ?_
  refine sm_geti (q := 7) d_X9_raiseWindow_4 rfl fl_X9_24 (hx sx_65) rfl ?_
  refine sm_if_gt (q := 10) (t := 12) d_X9_raiseWindow_7 rfl rfl (fun c1 => ?_) (fun c1 => ?_)
  · replace h := sm_it c1 h
    refine sm_iconst (q := 13) d_X9_raiseWindow_12 rfl ci_0 ?_
    refine sm_istore (q := 15) (lt := [some (.ref 64), some (.int x1), some (.int x2), some (.int x3), some (.int (0 : Int32)), none, none, none, none, none]) d_X9_raiseWindow_13 rfl (Nat.le_of_ble_eq_true rfl) rfl rfl ?_
    refine sm_iconst (q := 16) d_X9_raiseWindow_15 rfl ci_0 ?_
    refine sm_istore (q := 18) (lt := [some (.ref 64), some (.int x1), some (.int x2), some (.int x3), some (.int (0 : Int32)), some (.int (0 : Int32)), none, none, none, none]) d_X9_raiseWindow_16 rfl (Nat.le_of_ble_eq_true rfl) rfl rfl ?_
    exact j_X9_raiseWindow_18 hx F F x1 x2 x3 (0 : Int32) (0 : Int32) M _ h
  · replace h := sm_if c1 h
    refine sm_iconst (q := 11) d_X9_raiseWindow_10 rfl ci_0 ?_
    obtain rfl := Option.some.inj h
    exact sm_iret d_X9_raiseWindow_11 rfl (by decide) rfl rfl
theorem c_X9_raiseWindow {sk : List sm_Sh} (hx : sm_ext skX sk) (F : Nat) (x1 : Int32) (x2 : Int32) (x3 : Int32) (M : sm_M) (r : Int32 × sm_M) (h : f_X9_raiseWindow F x1 x2 x3 M = some r) : sm_Ct yX9_raiseWindow md_X9_raiseWindow 1 sk [.ref 64, .int x1, .int x2, .int x3] M (.inl (some (.int r.1))) r.2 := sm_enter 6 pn_X9 rfl (Nat.le_of_ble_eq_true rfl) rfl (j_X9_raiseWindow hx F x1 x2 x3 M r h)
/-! UniversalCycles$Unfolding.highestSymbol()I -/
theorem d_X9_highestSymbol_0 : decode cX9_highestSymbol 0 = .ok (.iconst 0, 1) := by decide +kernel
theorem d_X9_highestSymbol_1 : decode cX9_highestSymbol 1 = .ok (.istore_n 1, 1) := by decide +kernel
theorem d_X9_highestSymbol_2 : decode cX9_highestSymbol 2 = .ok (.iconst 0, 1) := by decide +kernel
theorem d_X9_highestSymbol_3 : decode cX9_highestSymbol 3 = .ok (.istore_n 2, 1) := by decide +kernel
theorem d_X9_highestSymbol_4 : decode cX9_highestSymbol 4 = .ok (.iload_n 2, 1) := by decide +kernel
theorem d_X9_highestSymbol_5 : decode cX9_highestSymbol 5 = .ok (.aload_n 0, 1) := by decide +kernel
theorem d_X9_highestSymbol_6 : decode cX9_highestSymbol 6 = .ok (.getfield 12, 3) := by decide +kernel
theorem d_X9_highestSymbol_9 : decode cX9_highestSymbol 9 = .ok (.getfield 24, 3) := by decide +kernel
theorem d_X9_highestSymbol_12 : decode cX9_highestSymbol 12 = .ok (.if_icmp .ge 23, 3) := by decide +kernel
theorem d_X9_highestSymbol_15 : decode cX9_highestSymbol 15 = .ok (.iload_n 1, 1) := by decide +kernel
theorem d_X9_highestSymbol_16 : decode cX9_highestSymbol 16 = .ok (.aload_n 0, 1) := by decide +kernel
theorem d_X9_highestSymbol_17 : decode cX9_highestSymbol 17 = .ok (.getfield 12, 3) := by decide +kernel
theorem d_X9_highestSymbol_20 : decode cX9_highestSymbol 20 = .ok (.getfield 49, 3) := by decide +kernel
theorem d_X9_highestSymbol_23 : decode cX9_highestSymbol 23 = .ok (.iload_n 2, 1) := by decide +kernel
theorem d_X9_highestSymbol_24 : decode cX9_highestSymbol 24 = .ok (.iaload, 1) := by decide +kernel
theorem d_X9_highestSymbol_25 : decode cX9_highestSymbol 25 = .ok (.invokestatic 75, 3) := by decide +kernel
theorem d_X9_highestSymbol_28 : decode cX9_highestSymbol 28 = .ok (.istore_n 1, 1) := by decide +kernel
theorem d_X9_highestSymbol_29 : decode cX9_highestSymbol 29 = .ok (.iinc 2 1, 3) := by decide +kernel
theorem d_X9_highestSymbol_32 : decode cX9_highestSymbol 32 = .ok (.goto (-28), 3) := by decide +kernel
theorem d_X9_highestSymbol_35 : decode cX9_highestSymbol 35 = .ok (.iload_n 1, 1) := by decide +kernel
theorem d_X9_highestSymbol_36 : decode cX9_highestSymbol 36 = .ok (.ireturn, 1) := by decide +kernel
def f_X9_highestSymbol_4b (F : Nat) (kb4 : Int32 → Int32 → sm_M → Option (Int32)) (x1 : Int32) (x2 : Int32) (M : sm_M) : Option (Int32) := if (M.1 65 1) ≤ x2 then (some x1) else (sm_g (sm_ib x2 240) (kb4 (if x1 < (M.1 66 x2.toNatClampNeg) then (M.1 66 x2.toNatClampNeg) else x1) (x2 + 1) M))
set_option maxRecDepth 100000 in
set_option maxHeartbeats 4000000 in
theorem j_X9_highestSymbol_4b {sk : List sm_Sh} (hx : sm_ext skX sk) (F : Nat) (kb4 : Int32 → Int32 → sm_M → Option (Int32)) (hkb4 : ∀ (x1 : Int32) (x2 : Int32) (M : sm_M) (r : Int32), kb4 x1 x2 M = some r → sm_J (md_X9_highestSymbol, 1, sk, .inl (some (.int r)), M) 4 [some (.ref 64), some (.int x1), some (.int x2)] [] M) : ∀ (x1 : Int32) (x2 : Int32) (M : sm_M) (r : Int32), f_X9_highestSymbol_4b F kb4 x1 x2 M = some r → sm_J (md_X9_highestSymbol, 1, sk, .inl (some (.int r)), M) 4 [some (.ref 64), some (.int x1), some (.int x2)] [] M := by
  intro x1 x2  M r h
  unfold f_X9_highestSymbol_4b at h
  refine sm_iload_n (q := 5) d_X9_highestSymbol_4 rfl rfl ?_
  refine sm_aload_n (q := 6) d_X9_highestSymbol_5 rfl rfl ?_
  refine sm_getr (q := 9) d_X9_highestSymbol_6 rfl fl_X9_12 (hx sx_64) rfl ?_
  refine sm_geti (q := 12) d_X9_highestSymbol_9 rfl fl_X9_24 (hx sx_65) rfl ?_
  refine sm_icmp_ge (q := 15) (t := 35) d_X9_highestSymbol_12 rfl rfl (fun c1 => ?_) (fun c1 => ?_)
  · replace h := sm_it c1 h
    refine sm_iload_n (q := 36) d_X9_highestSymbol_35 rfl rfl ?_
    obtain rfl := Option.some.inj h
    exact sm_iret d_X9_highestSymbol_36 rfl rfl rfl rfl
  · replace h := sm_if c1 h
    refine sm_iload_n (q := 16) d_X9_highestSymbol_15 rfl rfl ?_
    refine sm_aload_n (q := 17) d_X9_highestSymbol_16 rfl rfl ?_
    refine sm_getr (q := 20) d_X9_highestSymbol_17 rfl fl_X9_12 (hx sx_64) rfl ?_
    refine sm_getr (q := 23) d_X9_highestSymbol_20 rfl fl_X9_49 (hx sx_65) rfl ?_
    refine sm_iload_n (q := 24) d_X9_highestSymbol_23 rfl rfl ?_
    obtain ⟨g2, h⟩ := sm_gt h
    refine sm_iaload (q := 25) d_X9_highestSymbol_24 rfl (hx sx_66) (sm_ib_of g2) ?_
    refine sm_mmax (q := 28) d_X9_highestSymbol_25 rfl lk_X9_75 (Nat.le_of_ble_eq_true rfl) (Nat.le_of_ble_eq_true rfl) ?_
    refine sm_istore_n (q := 29) (lt := [some (.ref 64), some (.int (if x1 < (M.1 66 x2.toNatClampNeg) then (M.1 66 x2.toNatClampNeg) else x1)), some (.int x2)]) d_X9_highestSymbol_28 rfl (Nat.le_of_ble_eq_true rfl) rfl rfl ?_
    refine sm_iinc (q := 32) (v := (x2 + 1)) (lt := [some (.ref 64), some (.int (if x1 < (M.1 66 x2.toNatClampNeg) then (M.1 66 x2.toNatClampNeg) else x1)), some (.int (x2 + 1))]) d_X9_highestSymbol_29 rfl rfl (ii_1 _) (Nat.le_of_ble_eq_true rfl) rfl rfl ?_
    refine sm_goto (t := 4) d_X9_highestSymbol_32 rfl ?_
    exact hkb4 (if x1 < (M.1 66 x2.toNatClampNeg) then (M.1 66 x2.toNatClampNeg) else x1) (x2 + 1) M _ h
def f_X9_highestSymbol_4 (F : Nat) (n : Nat) : Int32 → Int32 → sm_M → Option (Int32) := match n with
 | 0 => fun _ _ _ => none
 | n + 1 => f_X9_highestSymbol_4b F (f_X9_highestSymbol_4 F n)
theorem j_X9_highestSymbol_4 {sk : List sm_Sh} (hx : sm_ext skX sk) (F : Nat) : ∀ (n : Nat) (x1 : Int32) (x2 : Int32) (M : sm_M) (r : Int32), f_X9_highestSymbol_4 F n x1 x2 M = some r → sm_J (md_X9_highestSymbol, 1, sk, .inl (some (.int r)), M) 4 [some (.ref 64), some (.int x1), some (.int x2)] [] M := by
  intro n
  induction n with
  | zero => intro x1 x2  M r h; exact nomatch (show (none : Option (Int32)) = some r from h)
  | succ n ih => exact j_X9_highestSymbol_4b hx F (f_X9_highestSymbol_4 F n) ih
def f_X9_highestSymbol (F : Nat) (M : sm_M) : Option (Int32) := f_X9_highestSymbol_4 F F (0 : Int32) (0 : Int32) M
set_option maxRecDepth 100000 in
set_option maxHeartbeats 4000000 in
theorem j_X9_highestSymbol {sk : List sm_Sh} (hx : sm_ext skX sk) (F : Nat) : ∀ (M : sm_M) (r : Int32), f_X9_highestSymbol F M = some r → sm_J (md_X9_highestSymbol, 1, sk, .inl (some (.int r)), M) 0 [some (.ref 64), none, none] [] M := by
  intro   M r h
  unfold f_X9_highestSymbol at h
  refine sm_iconst (q := 1) d_X9_highestSymbol_0 rfl ci_0 ?_
  refine sm_istore_n (q := 2) (lt := [some (.ref 64), some (.int (0 : Int32)), none]) d_X9_highestSymbol_1 rfl (Nat.le_of_ble_eq_true rfl) rfl rfl ?_
  refine sm_iconst (q := 3) d_X9_highestSymbol_2 rfl ci_0 ?_
  refine sm_istore_n (q := 4) (lt := [some (.ref 64), some (.int (0 : Int32)), some (.int (0 : Int32))]) d_X9_highestSymbol_3 rfl (Nat.le_of_ble_eq_true rfl) rfl rfl ?_
  exact j_X9_highestSymbol_4 hx F F (0 : Int32) (0 : Int32) M _ h
theorem c_X9_highestSymbol {sk : List sm_Sh} (hx : sm_ext skX sk) (F : Nat) (M : sm_M) (r : Int32) (h : f_X9_highestSymbol F M = some r) : sm_Ct yX9_highestSymbol md_X9_highestSymbol 1 sk [.ref 64] M (.inl (some (.int r))) M := sm_enter 2 pn_X9 rfl (Nat.le_of_ble_eq_true rfl) rfl (j_X9_highestSymbol hx F M r h)
/-! UniversalCycles$Unfolding.unfoldPatterns(LUniversalCycles$Family;LUniversalCycles$Graph;)Z -/
theorem d_X9_unfoldPatterns_0 : decode cX9_unfoldPatterns 0 = .ok (.aload_n 0, 1) := by decide +kernel
theorem d_X9_unfoldPatterns_1 : decode cX9_unfoldPatterns 1 = .ok (.getfield 12, 3) := by decide +kernel
theorem d_X9_unfoldPatterns_4 : decode cX9_unfoldPatterns 4 = .ok (.getfield 49, 3) := by decide +kernel
theorem d_X9_unfoldPatterns_7 : decode cX9_unfoldPatterns 7 = .ok (.iconst 0, 1) := by decide +kernel
theorem d_X9_unfoldPatterns_8 : decode cX9_unfoldPatterns 8 = .ok (.invokestatic 59, 3) := by decide +kernel
theorem d_X9_unfoldPatterns_11 : decode cX9_unfoldPatterns 11 = .ok (.aload_n 0, 1) := by decide +kernel
theorem d_X9_unfoldPatterns_12 : decode cX9_unfoldPatterns 12 = .ok (.getfield 12, 3) := by decide +kernel
theorem d_X9_unfoldPatterns_15 : decode cX9_unfoldPatterns 15 = .ok (.getfield 24, 3) := by decide +kernel
theorem d_X9_unfoldPatterns_18 : decode cX9_unfoldPatterns 18 = .ok (.aload_n 1, 1) := by decide +kernel
theorem d_X9_unfoldPatterns_19 : decode cX9_unfoldPatterns 19 = .ok (.getfield 65, 3) := by decide +kernel
theorem d_X9_unfoldPatterns_22 : decode cX9_unfoldPatterns 22 = .ok (.imul, 1) := by decide +kernel
theorem d_X9_unfoldPatterns_23 : decode cX9_unfoldPatterns 23 = .ok (.iconst 1, 1) := by decide +kernel
theorem d_X9_unfoldPatterns_24 : decode cX9_unfoldPatterns 24 = .ok (.iadd, 1) := by decide +kernel
theorem d_X9_unfoldPatterns_25 : decode cX9_unfoldPatterns 25 = .ok (.istore_n 3, 1) := by decide +kernel
theorem d_X9_unfoldPatterns_26 : decode cX9_unfoldPatterns 26 = .ok (.iconst 1, 1) := by decide +kernel
theorem d_X9_unfoldPatterns_27 : decode cX9_unfoldPatterns 27 = .ok (.istore 4, 2) := by decide +kernel
theorem d_X9_unfoldPatterns_29 : decode cX9_unfoldPatterns 29 = .ok (.iconst 0, 1) := by decide +kernel
theorem d_X9_unfoldPatterns_30 : decode cX9_unfoldPatterns 30 = .ok (.istore 5, 2) := by decide +kernel
theorem d_X9_unfoldPatterns_32 : decode cX9_unfoldPatterns 32 = .ok (.iload 5, 2) := by decide +kernel
theorem d_X9_unfoldPatterns_34 : decode cX9_unfoldPatterns 34 = .ok (.iload_n 3, 1) := by decide +kernel
theorem d_X9_unfoldPatterns_35 : decode cX9_unfoldPatterns 35 = .ok (.if_icmp .ge 86, 3) := by decide +kernel
theorem d_X9_unfoldPatterns_38 : decode cX9_unfoldPatterns 38 = .ok (.iload 4, 2) := by decide +kernel
theorem d_X9_unfoldPatterns_40 : decode cX9_unfoldPatterns 40 = .ok (.ifCond .eq 81, 3) := by decide +kernel
theorem d_X9_unfoldPatterns_43 : decode cX9_unfoldPatterns 43 = .ok (.iconst 0, 1) := by decide +kernel
theorem d_X9_unfoldPatterns_44 : decode cX9_unfoldPatterns 44 = .ok (.istore 4, 2) := by decide +kernel
theorem d_X9_unfoldPatterns_46 : decode cX9_unfoldPatterns 46 = .ok (.iconst 0, 1) := by decide +kernel
theorem d_X9_unfoldPatterns_47 : decode cX9_unfoldPatterns 47 = .ok (.istore 6, 2) := by decide +kernel
theorem d_X9_unfoldPatterns_49 : decode cX9_unfoldPatterns 49 = .ok (.iload 6, 2) := by decide +kernel
theorem d_X9_unfoldPatterns_51 : decode cX9_unfoldPatterns 51 = .ok (.aload_n 0, 1) := by decide +kernel
theorem d_X9_unfoldPatterns_52 : decode cX9_unfoldPatterns 52 = .ok (.getfield 12, 3) := by decide +kernel
theorem d_X9_unfoldPatterns_55 : decode cX9_unfoldPatterns 55 = .ok (.getfield 24, 3) := by decide +kernel
theorem d_X9_unfoldPatterns_58 : decode cX9_unfoldPatterns 58 = .ok (.if_icmp .ge 44, 3) := by decide +kernel
theorem d_X9_unfoldPatterns_61 : decode cX9_unfoldPatterns 61 = .ok (.aload_n 1, 1) := by decide +kernel
theorem d_X9_unfoldPatterns_62 : decode cX9_unfoldPatterns 62 = .ok (.getfield 36, 3) := by decide +kernel
theorem d_X9_unfoldPatterns_65 : decode cX9_unfoldPatterns 65 = .ok (.getfield 40, 3) := by decide +kernel
theorem d_X9_unfoldPatterns_68 : decode cX9_unfoldPatterns 68 = .ok (.aload_n 2, 1) := by decide +kernel
theorem d_X9_unfoldPatterns_69 : decode cX9_unfoldPatterns 69 = .ok (.getfield 46, 3) := by decide +kernel
theorem d_X9_unfoldPatterns_72 : decode cX9_unfoldPatterns 72 = .ok (.iload 6, 2) := by decide +kernel
theorem d_X9_unfoldPatterns_74 : decode cX9_unfoldPatterns 74 = .ok (.iaload, 1) := by decide +kernel
theorem d_X9_unfoldPatterns_75 : decode cX9_unfoldPatterns 75 = .ok (.iaload, 1) := by decide +kernel
theorem d_X9_unfoldPatterns_76 : decode cX9_unfoldPatterns 76 = .ok (.istore 7, 2) := by decide +kernel
theorem d_X9_unfoldPatterns_78 : decode cX9_unfoldPatterns 78 = .ok (.aload_n 0, 1) := by decide +kernel
theorem d_X9_unfoldPatterns_79 : decode cX9_unfoldPatterns 79 = .ok (.iload 7, 2) := by decide +kernel
theorem d_X9_unfoldPatterns_81 : decode cX9_unfoldPatterns 81 = .ok (.aload_n 1, 1) := by decide +kernel
theorem d_X9_unfoldPatterns_82 : decode cX9_unfoldPatterns 82 = .ok (.getfield 52, 3) := by decide +kernel
theorem d_X9_unfoldPatterns_85 : decode cX9_unfoldPatterns 85 = .ok (.iload 6, 2) := by decide +kernel
theorem d_X9_unfoldPatterns_87 : decode cX9_unfoldPatterns 87 = .ok (.invokevirtual 67, 3) := by decide +kernel
theorem d_X9_unfoldPatterns_90 : decode cX9_unfoldPatterns 90 = .ok (.ifCond .eq 6, 3) := by decide +kernel
theorem d_X9_unfoldPatterns_93 : decode cX9_unfoldPatterns 93 = .ok (.iconst 1, 1) := by decide +kernel
theorem d_X9_unfoldPatterns_94 : decode cX9_unfoldPatterns 94 = .ok (.istore 4, 2) := by decide +kernel
theorem d_X9_unfoldPatterns_96 : decode cX9_unfoldPatterns 96 = .ok (.iinc 6 1, 3) := by decide +kernel
theorem d_X9_unfoldPatterns_99 : decode cX9_unfoldPatterns 99 = .ok (.goto (-50), 3) := by decide +kernel
theorem d_X9_unfoldPatterns_102 : decode cX9_unfoldPatterns 102 = .ok (.aload_n 0, 1) := by decide +kernel
theorem d_X9_unfoldPatterns_103 : decode cX9_unfoldPatterns 103 = .ok (.invokevirtual 71, 3) := by decide +kernel
theorem d_X9_unfoldPatterns_106 : decode cX9_unfoldPatterns 106 = .ok (.aload_n 1, 1) := by decide +kernel
theorem d_X9_unfoldPatterns_107 : decode cX9_unfoldPatterns 107 = .ok (.getfield 65, 3) := by decide +kernel
theorem d_X9_unfoldPatterns_110 : decode cX9_unfoldPatterns 110 = .ok (.if_icmp .lt 5, 3) := by decide +kernel
theorem d_X9_unfoldPatterns_113 : decode cX9_unfoldPatterns 113 = .ok (.iconst 0, 1) := by decide +kernel
theorem d_X9_unfoldPatterns_114 : decode cX9_unfoldPatterns 114 = .ok (.ireturn, 1) := by decide +kernel
theorem d_X9_unfoldPatterns_115 : decode cX9_unfoldPatterns 115 = .ok (.iinc 5 1, 3) := by decide +kernel
theorem d_X9_unfoldPatterns_118 : decode cX9_unfoldPatterns 118 = .ok (.goto (-86), 3) := by decide +kernel
theorem d_X9_unfoldPatterns_121 : decode cX9_unfoldPatterns 121 = .ok (.iload 4, 2) := by decide +kernel
theorem d_X9_unfoldPatterns_123 : decode cX9_unfoldPatterns 123 = .ok (.ifCond .ne 7, 3) := by decide +kernel
theorem d_X9_unfoldPatterns_126 : decode cX9_unfoldPatterns 126 = .ok (.iconst 1, 1) := by decide +kernel
theorem d_X9_unfoldPatterns_127 : decode cX9_unfoldPatterns 127 = .ok (.goto 4, 3) := by decide +kernel
theorem d_X9_unfoldPatterns_130 : decode cX9_unfoldPatterns 130 = .ok (.iconst 0, 1) := by decide +kernel
theorem d_X9_unfoldPatterns_131 : decode cX9_unfoldPatterns 131 = .ok (.ireturn, 1) := by decide +kernel
def f_X9_unfoldPatterns_96 (F : Nat) (kb32 : Int32 → Int32 → Int32 → sm_M → Option (Int32 × sm_M)) (kb49 : Int32 → Int32 → Int32 → Int32 → sm_M → Option (Int32 × sm_M)) (x3 : Int32) (x4 : Int32) (x5 : Int32) (x6 : Int32) (M : sm_M) : Option (Int32 × sm_M) := kb49 x3 x4 x5 (x6 + 1) M
set_option maxRecDepth 100000 in
set_option maxHeartbeats 4000000 in
theorem j_X9_unfoldPatterns_96 {sk : List sm_Sh} (hx : sm_ext skX sk) (F : Nat) (kb32 : Int32 → Int32 → Int32 → sm_M → Option (Int32 × sm_M)) (kb49 : Int32 → Int32 → Int32 → Int32 → sm_M → Option (Int32 × sm_M)) (hkb32 : ∀ (x3 : Int32) (x4 : Int32) (x5 : Int32) (M : sm_M) (r : Int32 × sm_M), kb32 x3 x4 x5 M = some r → sm_J (md_X9_unfoldPatterns, 2, sk, .inl (some (.int r.1)), r.2) 32 [some (.ref 64), some (.ref 1), some (.ref 5), some (.int x3), some (.int x4), some (.int x5), none, none] [] M) (hkb49 : ∀ (x3 : Int32) (x4 : Int32) (x5 : Int32) (x6 : Int32) (M : sm_M) (r : Int32 × sm_M), kb49 x3 x4 x5 x6 M = some r → sm_J (md_X9_unfoldPatterns, 2, sk, .inl (some (.int r.1)), r.2) 49 [some (.ref 64), some (.ref 1), some (.ref 5), some (.int x3), some (.int x4), some (.int x5), some (.int x6), none] [] M) : ∀ (x3 : Int32) (x4 : Int32) (x5 : Int32) (x6 : Int32) (M : sm_M) (r : Int32 × sm_M), f_X9_unfoldPatterns_96 F kb32 kb49 x3 x4 x5 x6 M = some r → sm_J (md_X9_unfoldPatterns, 2, sk, .inl (some (.int r.1)), r.2) 96 [some (.ref 64), some (.ref 1), some (.ref 5), some (.int x3), some (.int x4), some (.int x5), some (.int x6), none] [] M := by
  intro x3 x4 x5 x6  M r h
  unfold f_X9_unfoldPatterns_96 at h
  refine sm_iinc (q := 99) (v := (x6 + 1)) (lt := [some (.ref 64), some (.ref 1), some (.ref 5), some (.int x3), some (.int x4), some (.int x5), some (.int (x6 + 1)), none]) d_X9_unfoldPatterns_96 rfl rfl (ii_1 _) (Nat.le_of_ble_eq_true rfl) rfl rfl ?_
  refine sm_goto (t := 49) d_X9_unfoldPatterns_99 rfl ?_
  exact hkb49 x3 x4 x5 (x6 + 1) M _ h
def f_X9_unfoldPatterns_49b (F : Nat) (kb32 : Int32 → Int32 → Int32 → sm_M → Option (Int32 × sm_M)) (kb49 : Int32 → Int32 → Int32 → Int32 → sm_M → Option (Int32 × sm_M)) (x3 : Int32) (x4 : Int32) (x5 : Int32) (x6 : Int32) (M : sm_M) : Option (Int32 × sm_M) := if (M.1 65 1) ≤ x6 then ((f_X9_highestSymbol F M).bind fun q2 => if q2 < (M.1 1 3) then (kb32 x3 x4 (x5 + 1) M) else (some ((0 : Int32), M))) else (sm_g (sm_ib x6 200) (sm_g (sm_ib (M.1 17 x6.toNatClampNeg) 200) ((f_X9_raiseWindow F (M.1 3 (M.1 17 x6.toNatClampNeg).toNatClampNeg) (M.1 1 2) x6 M).bind fun q6 => if q6.1 = 0 then (f_X9_unfoldPatterns_96 F kb32 kb49 x3 x4 x5 x6 q6.2) else (f_X9_unfoldPatterns_96 F kb32 kb49 x3 (1 : Int32) x5 x6 q6.2))))
set_option maxRecDepth 100000 in
set_option maxHeartbeats 4000000 in
theorem j_X9_unfoldPatterns_49b {sk : List sm_Sh} (hx : sm_ext skX sk) (F : Nat) (kb32 : Int32 → Int32 → Int32 → sm_M → Option (Int32 × sm_M)) (kb49 : Int32 → Int32 → Int32 → Int32 → sm_M → Option (Int32 × sm_M)) (hkb32 : ∀ (x3 : Int32) (x4 : Int32) (x5 : Int32) (M : sm_M) (r : Int32 × sm_M), kb32 x3 x4 x5 M = some r → sm_J (md_X9_unfoldPatterns, 2, sk, .inl (some (.int r.1)), r.2) 32 [some (.ref 64), some (.ref 1), some (.ref 5), some (.int x3), some (.int x4), some (.int x5), none, none] [] M) (hkb49 : ∀ (x3 : Int32) (x4 : Int32) (x5 : Int32) (x6 : Int32) (M : sm_M) (r : Int32 × sm_M), kb49 x3 x4 x5 x6 M = some r → sm_J (md_X9_unfoldPatterns, 2, sk, .inl (some (.int r.1)), r.2) 49 [some (.ref 64), some (.ref 1), some (.ref 5), some (.int x3), some (.int x4), some (.int x5), some (.int x6), none] [] M) : ∀ (x3 : Int32) (x4 : Int32) (x5 : Int32) (x6 : Int32) (M : sm_M) (r : Int32 × sm_M), f_X9_unfoldPatterns_49b F kb32 kb49 x3 x4 x5 x6 M = some r → sm_J (md_X9_unfoldPatterns, 2, sk, .inl (some (.int r.1)), r.2) 49 [some (.ref 64), some (.ref 1), some (.ref 5), some (.int x3), some (.int x4), some (.int x5), some (.int x6), none] [] M := by
  intro x3 x4 x5 x6  M r h
  unfold f_X9_unfoldPatterns_49b at h
  refine sm_iload (q := 51) d_X9_unfoldPatterns_49 rfl rfl ?_
  refine sm_aload_n (q := 52) d_X9_unfoldPatterns_51 rfl rfl ?_
  refine sm_getr (q := 55) d_X9_unfoldPatterns_52 rfl fl_X9_12 (hx sx_64) rfl ?_
  refine sm_geti (q := 58) d_X9_unfoldPatterns_55 rfl fl_X9_24 (hx sx_65) rfl ?_
  refine sm_icmp_ge (q := 61) (t := 102) d_X9_unfoldPatterns_58 rfl rfl (fun c1 => ?_) (fun c1 => ?_)
  · replace h := sm_it c1 h
    refine sm_aload_n (q := 103) d_X9_unfoldPatterns_102 rfl rfl ?_
    obtain ⟨q2, e2, h⟩ := sm_bd h
    refine sm_callV (q := 106) (d' := 1) [] [] d_X9_unfoldPatterns_103 rfl lk_X9_71 (hx sx_64) rfl rfl rfl (Nat.le_of_ble_eq_true rfl) (Nat.le_of_ble_eq_true rfl) (c_X9_highestSymbol hx F M _ e2) (st9 := [.int q2]) rfl ?_
    refine sm_aload_n (q := 107) d_X9_unfoldPatterns_106 rfl rfl ?_
    refine sm_geti (q := 110) d_X9_unfoldPatterns_107 rfl fl_X9_65 (hx sx_1) rfl ?_
    refine sm_icmp_lt (q := 113) (t := 115) d_X9_unfoldPatterns_110 rfl rfl (fun c3 => ?_) (fun c3 => ?_)
    · replace h := sm_it c3 h
      refine sm_iinc (q := 118) (v := (x5 + 1)) (lt := [some (.ref 64), some (.ref 1), some (.ref 5), some (.int x3), some (.int x4), some (.int (x5 + 1)), some (.int x6), none]) d_X9_unfoldPatterns_115 rfl rfl (ii_1 _) (Nat.le_of_ble_eq_true rfl) rfl rfl ?_
      refine sm_goto (t := 32) d_X9_unfoldPatterns_118 rfl ?_
      refine sm_fg [6] ?_
      exact hkb32 x3 x4 (x5 + 1) M _ h
    · replace h := sm_if c3 h
      refine sm_iconst (q := 114) d_X9_unfoldPatterns_113 rfl ci_0 ?_
      obtain rfl := Option.some.inj h
      exact sm_iret d_X9_unfoldPatterns_114 rfl (by decide) rfl rfl
  · replace h := sm_if c1 h
    refine sm_aload_n (q := 62) d_X9_unfoldPatterns_61 rfl rfl ?_
    refine sm_getr (q := 65) d_X9_unfoldPatterns_62 rfl fl_X9_36 (hx sx_1) rfl ?_
    refine sm_getr (q := 68) d_X9_unfoldPatterns_65 rfl fl_X9_40 (hx sx_2) rfl ?_
    refine sm_aload_n (q := 69) d_X9_unfoldPatterns_68 rfl rfl ?_
    refine sm_getr (q := 72) d_X9_unfoldPatterns_69 rfl fl_X9_46 (hx sx_5) rfl ?_
    refine sm_iload (q := 74) d_X9_unfoldPatterns_72 rfl rfl ?_
    obtain ⟨g4, h⟩ := sm_gt h
    refine sm_iaload (q := 75) d_X9_unfoldPatterns_74 rfl (hx sx_17) (sm_ib_of g4) ?_
    obtain ⟨g5, h⟩ := sm_gt h
    refine sm_iaload (q := 76) d_X9_unfoldPatterns_75 rfl (hx sx_3) (sm_ib_of g5) ?_
    refine sm_istore (q := 78) (lt := [some (.ref 64), some (.ref 1), some (.ref 5), some (.int x3), some (.int x4), some (.int x5), some (.int x6), some (.int (M.1 3 (M.1 17 x6.toNatClampNeg).toNatClampNeg))]) d_X9_unfoldPatterns_76 rfl (Nat.le_of_ble_eq_true rfl) rfl rfl ?_
    refine sm_aload_n (q := 79) d_X9_unfoldPatterns_78 rfl rfl ?_
    refine sm_iload (q := 81) d_X9_unfoldPatterns_79 rfl rfl ?_
    refine sm_aload_n (q := 82) d_X9_unfoldPatterns_81 rfl rfl ?_
    refine sm_geti (q := 85) d_X9_unfoldPatterns_82 rfl fl_X9_52 (hx sx_1) rfl ?_
    refine sm_iload (q := 87) d_X9_unfoldPatterns_85 rfl rfl ?_
    obtain ⟨q6, e6, h⟩ := sm_bd h
    refine sm_callV (q := 90) (d' := 1) [] [.int (M.1 3 (M.1 17 x6.toNatClampNeg).toNatClampNeg), .int (M.1 1 2), .int x6] d_X9_unfoldPatterns_87 rfl lk_X9_67 (hx sx_64) rfl rfl rfl (Nat.le_of_ble_eq_true rfl) (Nat.le_of_ble_eq_true rfl) (c_X9_raiseWindow hx F (M.1 3 (M.1 17 x6.toNatClampNeg).toNatClampNeg) (M.1 1 2) x6 M _ e6) (st9 := [.int q6.1]) rfl ?_
    refine sm_if_eq (q := 93) (t := 96) d_X9_unfoldPatterns_90 rfl rfl (fun c7 => ?_) (fun c7 => ?_)
    · replace h := sm_it c7 h
      refine sm_fg [7] ?_
      exact j_X9_unfoldPatterns_96 hx F kb32 kb49 hkb32 hkb49 x3 x4 x5 x6 q6.2 _ h
    · replace h := sm_if c7 h
      refine sm_iconst (q := 94) d_X9_unfoldPatterns_93 rfl ci_1 ?_
      refine sm_istore (q := 96) (lt := [some (.ref 64), some (.ref 1), some (.ref 5), some (.int x3), some (.int (1 : Int32)), some (.int x5), some (.int x6), some (.int (M.1 3 (M.1 17 x6.toNatClampNeg).toNatClampNeg))]) d_X9_unfoldPatterns_94 rfl (Nat.le_of_ble_eq_true rfl) rfl rfl ?_
      refine sm_fg [7] ?_
      exact j_X9_unfoldPatterns_96 hx F kb32 kb49 hkb32 hkb49 x3 (1 : Int32) x5 x6 q6.2 _ h
def f_X9_unfoldPatterns_49 (F : Nat) (kb32 : Int32 → Int32 → Int32 → sm_M → Option (Int32 × sm_M)) (n : Nat) : Int32 → Int32 → Int32 → Int32 → sm_M → Option (Int32 × sm_M) := match n with
 | 0 => fun _ _ _ _ _ => none
 | n + 1 => f_X9_unfoldPatterns_49b F kb32 (f_X9_unfoldPatterns_49 F kb32 n)
theorem j_X9_unfoldPatterns_49 {sk : List sm_Sh} (hx : sm_ext skX sk) (F : Nat) (kb32 : Int32 → Int32 → Int32 → sm_M → Option (Int32 × sm_M)) (hkb32 : ∀ (x3 : Int32) (x4 : Int32) (x5 : Int32) (M : sm_M) (r : Int32 × sm_M), kb32 x3 x4 x5 M = some r → sm_J (md_X9_unfoldPatterns, 2, sk, .inl (some (.int r.1)), r.2) 32 [some (.ref 64), some (.ref 1), some (.ref 5), some (.int x3), some (.int x4), some (.int x5), none, none] [] M) : ∀ (n : Nat) (x3 : Int32) (x4 : Int32) (x5 : Int32) (x6 : Int32) (M : sm_M) (r : Int32 × sm_M), f_X9_unfoldPatterns_49 F kb32 n x3 x4 x5 x6 M = some r → sm_J (md_X9_unfoldPatterns, 2, sk, .inl (some (.int r.1)), r.2) 49 [some (.ref 64), some (.ref 1), some (.ref 5), some (.int x3), some (.int x4), some (.int x5), some (.int x6), none] [] M := by
  intro n
  induction n with
  | zero => intro x3 x4 x5 x6  M r h; exact nomatch (show (none : Option (Int32 × sm_M)) = some r from h)
  | succ n ih => exact j_X9_unfoldPatterns_49b hx F kb32 (f_X9_unfoldPatterns_49 F kb32 n) hkb32 ih
def f_X9_unfoldPatterns_131 (F : Nat) (y0 : Int32) (M : sm_M) : Option (Int32 × sm_M) := sm_g (sm_nar .boolean y0) (some (y0, M))
set_option maxRecDepth 100000 in
set_option maxHeartbeats 4000000 in
theorem j_X9_unfoldPatterns_131 {sk : List sm_Sh} (hx : sm_ext skX sk) (F : Nat) : ∀ (y0 : Int32) (M : sm_M) (r : Int32 × sm_M), f_X9_unfoldPatterns_131 F y0 M = some r → sm_J (md_X9_unfoldPatterns, 2, sk, .inl (some (.int r.1)), r.2) 131 [none, none, none, none, none, none, none, none] [.int y0] M := by
  intro y0  M r h
  unfold f_X9_unfoldPatterns_131 at h
  obtain ⟨g1, h⟩ := sm_gt h
  obtain rfl := Option.some.inj h
  exact sm_iret d_X9_unfoldPatterns_131 rfl (sm_nar_of g1).1 rfl rfl
def f_X9_unfoldPatterns_121 (F : Nat) (x4 : Int32) (M : sm_M) : Option (Int32 × sm_M) := if x4 = 0 then (f_X9_unfoldPatterns_131 F (1 : Int32) M) else (f_X9_unfoldPatterns_131 F (0 : Int32) M)
set_option maxRecDepth 100000 in
set_option maxHeartbeats 4000000 in
theorem j_X9_unfoldPatterns_121 {sk : List sm_Sh} (hx : sm_ext skX sk) (F : Nat) : ∀ (x4 : Int32) (M : sm_M) (r : Int32 × sm_M), f_X9_unfoldPatterns_121 F x4 M = some r → sm_J (md_X9_unfoldPatterns, 2, sk, .inl (some (.int r.1)), r.2) 121 [none, none, none, none, some (.int x4), none, none, none] [] M := by
  intro x4  M r h
  unfold f_X9_unfoldPatterns_121 at h
  refine sm_iload (q := 123) d_X9_unfoldPatterns_121 rfl rfl ?_
  refine sm_if_ne (q := 126) (t := 130) d_X9_unfoldPatterns_123 rfl rfl (fun c1 => ?_) (fun c1 => ?_)
  · replace h := sm_if c1 h
    refine sm_iconst (q := 131) d_X9_unfoldPatterns_130 rfl ci_0 ?_
    refine sm_fg [4] ?_
    exact j_X9_unfoldPatterns_131 hx F (0 : Int32) M _ h
  · replace h := sm_it c1 h
    refine sm_iconst (q := 127) d_X9_unfoldPatterns_126 rfl ci_1 ?_
    refine sm_goto (t := 131) d_X9_unfoldPatterns_127 rfl ?_
    refine sm_fg [4] ?_
    exact j_X9_unfoldPatterns_131 hx F (1 : Int32) M _ h
def f_X9_unfoldPatterns_32b (F : Nat) (kb32 : Int32 → Int32 → Int32 → sm_M → Option (Int32 × sm_M)) (x3 : Int32) (x4 : Int32) (x5 : Int32) (M : sm_M) : Option (Int32 × sm_M) := if x3 ≤ x5 then (f_X9_unfoldPatterns_121 F x4 M) else (if x4 = 0 then (f_X9_unfoldPatterns_121 F x4 M) else (f_X9_unfoldPatterns_49 F kb32 F x3 (0 : Int32) x5 (0 : Int32) M))
set_option maxRecDepth 100000 in
set_option maxHeartbeats 4000000 in
theorem j_X9_unfoldPatterns_32b {sk : List sm_Sh} (hx : sm_ext skX sk) (F : Nat) (kb32 : Int32 → Int32 → Int32 → sm_M → Option (Int32 × sm_M)) (hkb32 : ∀ (x3 : Int32) (x4 : Int32) (x5 : Int32) (M : sm_M) (r : Int32 × sm_M), kb32 x3 x4 x5 M = some r → sm_J (md_X9_unfoldPatterns, 2, sk, .inl (some (.int r.1)), r.2) 32 [some (.ref 64), some (.ref 1), some (.ref 5), some (.int x3), some (.int x4), some (.int x5), none, none] [] M) : ∀ (x3 : Int32) (x4 : Int32) (x5 : Int32) (M : sm_M) (r : Int32 × sm_M), f_X9_unfoldPatterns_32b F kb32 x3 x4 x5 M = some r → sm_J (md_X9_unfoldPatterns, 2, sk, .inl (some (.int r.1)), r.2) 32 [some (.ref 64), some (.ref 1), some (.ref 5), some (.int x3), some (.int x4), some (.int x5), none, none] [] M := by
  intro x3 x4 x5  M r h
  unfold f_X9_unfoldPatterns_32b at h
  refine sm_iload (q := 34) d_X9_unfoldPatterns_32 rfl rfl ?_
  refine sm_iload_n (q := 35) d_X9_unfoldPatterns_34 rfl rfl ?_
  refine sm_icmp_ge (q := 38) (t := 121) d_X9_unfoldPatterns_35 rfl rfl (fun c1 => ?_) (fun c1 => ?_)
  · replace h := sm_it c1 h
    refine sm_fg [0, 1, 2, 3, 5] ?_
    exact j_X9_unfoldPatterns_121 hx F x4 M _ h
  · replace h := sm_if c1 h
    refine sm_iload (q := 40) d_X9_unfoldPatterns_38 rfl rfl ?_
    refine sm_if_eq (q := 43) (t := 121) d_X9_unfoldPatterns_40 rfl rfl (fun c2 => ?_) (fun c2 => ?_)
    · replace h := sm_it c2 h
      refine sm_fg [0, 1, 2, 3, 5] ?_
      exact j_X9_unfoldPatterns_121 hx F x4 M _ h
    · replace h := sm_if c2 h
      refine sm_iconst (q := 44) d_X9_unfoldPatterns_43 rfl ci_0 ?_
      refine sm_istore (q := 46) (lt := [some (.ref 64), some (.ref 1), some (.ref 5), some (.int x3), some (.int (0 : Int32)), some (.int x5), none, none]) d_X9_unfoldPatterns_44 rfl (Nat.le_of_ble_eq_true rfl) rfl rfl ?_
      refine sm_iconst (q := 47) d_X9_unfoldPatterns_46 rfl ci_0 ?_
      refine sm_istore (q := 49) (lt := [some (.ref 64), some (.ref 1), some (.ref 5), some (.int x3), some (.int (0 : Int32)), some (.int x5), some (.int (0 : Int32)), none]) d_X9_unfoldPatterns_47 rfl (Nat.le_of_ble_eq_true rfl) rfl rfl ?_
      exact j_X9_unfoldPatterns_49 hx F kb32 hkb32 F x3 (0 : Int32) x5 (0 : Int32) M _ h
def f_X9_unfoldPatterns_32 (F : Nat) (n : Nat) : Int32 → Int32 → Int32 → sm_M → Option (Int32 × sm_M) := match n with
 | 0 => fun _ _ _ _ => none
 | n + 1 => f_X9_unfoldPatterns_32b F (f_X9_unfoldPatterns_32 F n)
theorem j_X9_unfoldPatterns_32 {sk : List sm_Sh} (hx : sm_ext skX sk) (F : Nat) : ∀ (n : Nat) (x3 : Int32) (x4 : Int32) (x5 : Int32) (M : sm_M) (r : Int32 × sm_M), f_X9_unfoldPatterns_32 F n x3 x4 x5 M = some r → sm_J (md_X9_unfoldPatterns, 2, sk, .inl (some (.int r.1)), r.2) 32 [some (.ref 64), some (.ref 1), some (.ref 5), some (.int x3), some (.int x4), some (.int x5), none, none] [] M := by
  intro n
  induction n with
  | zero => intro x3 x4 x5  M r h; exact nomatch (show (none : Option (Int32 × sm_M)) = some r from h)
  | succ n ih => exact j_X9_unfoldPatterns_32b hx F (f_X9_unfoldPatterns_32 F n) ih
def f_X9_unfoldPatterns (F : Nat) (M : sm_M) : Option (Int32 × sm_M) := (f_J7_fill_53178 F 66 240 (0 : Int32) M).bind fun q1 => f_X9_unfoldPatterns_32 F F (((q1.1 65 1) * (q1.1 1 3)) + (1 : Int32)) (1 : Int32) (0 : Int32) q1
set_option maxRecDepth 100000 in
set_option maxHeartbeats 4000000 in
theorem j_X9_unfoldPatterns {sk : List sm_Sh} (hx : sm_ext skX sk) (F : Nat) : ∀ (M : sm_M) (r : Int32 × sm_M), f_X9_unfoldPatterns F M = some r → sm_J (md_X9_unfoldPatterns, 2, sk, .inl (some (.int r.1)), r.2) 0 [some (.ref 64), some (.ref 1), some (.ref 5), none, none, none, none, none] [] M := by
  intro   M r h
  unfold f_X9_unfoldPatterns at h
  refine sm_aload_n (q := 1) d_X9_unfoldPatterns_0 rfl rfl ?_
  refine sm_getr (q := 4) d_X9_unfoldPatterns_1 rfl fl_X9_12 (hx sx_64) rfl ?_
  refine sm_getr (q := 7) d_X9_unfoldPatterns_4 rfl fl_X9_49 (hx sx_65) rfl ?_
  refine sm_iconst (q := 8) d_X9_unfoldPatterns_7 rfl ci_0 ?_
  obtain ⟨q1, e1, h⟩ := sm_bd h
  refine sm_callS (q := 11) (d' := 0) [] [.ref 66, .int (0 : Int32)] d_X9_unfoldPatterns_8 rfl lk_X9_59 rfl (Nat.le_of_ble_eq_true rfl) (Nat.le_of_ble_eq_true rfl) (c_J7_fill_53178 hx F 66 240 (hx sx_66) (0 : Int32) M _ e1) (st9 := []) rfl ?_
  refine sm_aload_n (q := 12) d_X9_unfoldPatterns_11 rfl rfl ?_
  refine sm_getr (q := 15) d_X9_unfoldPatterns_12 rfl fl_X9_12 (hx sx_64) rfl ?_
  refine sm_geti (q := 18) d_X9_unfoldPatterns_15 rfl fl_X9_24 (hx sx_65) rfl ?_
  refine sm_aload_n (q := 19) d_X9_unfoldPatterns_18 rfl rfl ?_
  refine sm_geti (q := 22) d_X9_unfoldPatterns_19 rfl fl_X9_65 (hx sx_1) rfl ?_
  refine sm_imul (q := 23) d_X9_unfoldPatterns_22 rfl ?_
  refine sm_iconst (q := 24) d_X9_unfoldPatterns_23 rfl ci_1 ?_
  refine sm_iadd (q := 25) d_X9_unfoldPatterns_24 rfl ?_
  refine sm_istore_n (q := 26) (lt := [some (.ref 64), some (.ref 1), some (.ref 5), some (.int (((q1.1 65 1) * (q1.1 1 3)) + (1 : Int32))), none, none, none, none]) d_X9_unfoldPatterns_25 rfl (Nat.le_of_ble_eq_true rfl) rfl rfl ?_
  refine sm_iconst (q := 27) d_X9_unfoldPatterns_26 rfl ci_1 ?_
  refine sm_istore (q := 29) (lt := [some (.ref 64), some (.ref 1), some (.ref 5), some (.int (((q1.1 65 1) * (q1.1 1 3)) + (1 : Int32))), some (.int (1 : Int32)), none, none, none]) d_X9_unfoldPatterns_27 rfl (Nat.le_of_ble_eq_true rfl) rfl rfl ?_
  refine sm_iconst (q := 30) d_X9_unfoldPatterns_29 rfl ci_0 ?_
  refine sm_istore (q := 32) (lt := [some (.ref 64), some (.ref 1), some (.ref 5), some (.int (((q1.1 65 1) * (q1.1 1 3)) + (1 : Int32))), some (.int (1 : Int32)), some (.int (0 : Int32)), none, none]) d_X9_unfoldPatterns_30 rfl (Nat.le_of_ble_eq_true rfl) rfl rfl ?_
  exact j_X9_unfoldPatterns_32 hx F F (((q1.1 65 1) * (q1.1 1 3)) + (1 : Int32)) (1 : Int32) (0 : Int32) q1 _ h
theorem c_X9_unfoldPatterns {sk : List sm_Sh} (hx : sm_ext skX sk) (F : Nat) (M : sm_M) (r : Int32 × sm_M) (h : f_X9_unfoldPatterns F M = some r) : sm_Ct yX9_unfoldPatterns md_X9_unfoldPatterns 2 sk [.ref 64, .ref 1, .ref 5] M (.inl (some (.int r.1))) r.2 := sm_enter 5 pn_X9 rfl (Nat.le_of_ble_eq_true rfl) rfl (j_X9_unfoldPatterns hx F M r h)
/-! UniversalCycles$Unfolding.unfold(LUniversalCycles$Family;LUniversalCycles$Graph;)Z -/
theorem d_X9_unfold_0 : decode cX9_unfold 0 = .ok (.aload_n 0, 1) := by decide +kernel
theorem d_X9_unfold_1 : decode cX9_unfold 1 = .ok (.getfield 12, 3) := by decide +kernel
theorem d_X9_unfold_4 : decode cX9_unfold 4 = .ok (.aload_n 2, 1) := by decide +kernel
theorem d_X9_unfold_5 : decode cX9_unfold 5 = .ok (.getfield 18, 3) := by decide +kernel
theorem d_X9_unfold_8 : decode cX9_unfold 8 = .ok (.putfield 24, 3) := by decide +kernel
theorem d_X9_unfold_11 : decode cX9_unfold 11 = .ok (.aload_n 1, 1) := by decide +kernel
theorem d_X9_unfold_12 : decode cX9_unfold 12 = .ok (.getfield 27, 3) := by decide +kernel
theorem d_X9_unfold_15 : decode cX9_unfold 15 = .ok (.iconst 1, 1) := by decide +kernel
theorem d_X9_unfold_16 : decode cX9_unfold 16 = .ok (.if_icmp .ne 10, 3) := by decide +kernel
theorem d_X9_unfold_19 : decode cX9_unfold 19 = .ok (.aload_n 0, 1) := by decide +kernel
theorem d_X9_unfold_20 : decode cX9_unfold 20 = .ok (.aload_n 1, 1) := by decide +kernel
theorem d_X9_unfold_21 : decode cX9_unfold 21 = .ok (.aload_n 2, 1) := by decide +kernel
theorem d_X9_unfold_22 : decode cX9_unfold 22 = .ok (.invokevirtual 32, 3) := by decide +kernel
theorem d_X9_unfold_25 : decode cX9_unfold 25 = .ok (.ireturn, 1) := by decide +kernel
theorem d_X9_unfold_26 : decode cX9_unfold 26 = .ok (.iconst 0, 1) := by decide +kernel
theorem d_X9_unfold_27 : decode cX9_unfold 27 = .ok (.istore_n 3, 1) := by decide +kernel
theorem d_X9_unfold_28 : decode cX9_unfold 28 = .ok (.iload_n 3, 1) := by decide +kernel
theorem d_X9_unfold_29 : decode cX9_unfold 29 = .ok (.aload_n 0, 1) := by decide +kernel
theorem d_X9_unfold_30 : decode cX9_unfold 30 = .ok (.getfield 12, 3) := by decide +kernel
theorem d_X9_unfold_33 : decode cX9_unfold 33 = .ok (.getfield 24, 3) := by decide +kernel
theorem d_X9_unfold_36 : decode cX9_unfold 36 = .ok (.if_icmp .ge 44, 3) := by decide +kernel
theorem d_X9_unfold_39 : decode cX9_unfold 39 = .ok (.aload_n 1, 1) := by decide +kernel
theorem d_X9_unfold_40 : decode cX9_unfold 40 = .ok (.getfield 36, 3) := by decide +kernel
theorem d_X9_unfold_43 : decode cX9_unfold 43 = .ok (.getfield 40, 3) := by decide +kernel
theorem d_X9_unfold_46 : decode cX9_unfold 46 = .ok (.aload_n 2, 1) := by decide +kernel
theorem d_X9_unfold_47 : decode cX9_unfold 47 = .ok (.getfield 46, 3) := by decide +kernel
theorem d_X9_unfold_50 : decode cX9_unfold 50 = .ok (.iload_n 3, 1) := by decide +kernel
theorem d_X9_unfold_51 : decode cX9_unfold 51 = .ok (.iaload, 1) := by decide +kernel
theorem d_X9_unfold_52 : decode cX9_unfold 52 = .ok (.iaload, 1) := by decide +kernel
theorem d_X9_unfold_53 : decode cX9_unfold 53 = .ok (.istore 4, 2) := by decide +kernel
theorem d_X9_unfold_55 : decode cX9_unfold 55 = .ok (.aload_n 0, 1) := by decide +kernel
theorem d_X9_unfold_56 : decode cX9_unfold 56 = .ok (.getfield 12, 3) := by decide +kernel
theorem d_X9_unfold_59 : decode cX9_unfold 59 = .ok (.getfield 49, 3) := by decide +kernel
theorem d_X9_unfold_62 : decode cX9_unfold 62 = .ok (.iload_n 3, 1) := by decide +kernel
theorem d_X9_unfold_63 : decode cX9_unfold 63 = .ok (.iload 4, 2) := by decide +kernel
theorem d_X9_unfold_65 : decode cX9_unfold 65 = .ok (.aload_n 1, 1) := by decide +kernel
theorem d_X9_unfold_66 : decode cX9_unfold 66 = .ok (.getfield 52, 3) := by decide +kernel
theorem d_X9_unfold_69 : decode cX9_unfold 69 = .ok (.iconst 0, 1) := by decide +kernel
theorem d_X9_unfold_70 : decode cX9_unfold 70 = .ok (.invokestatic 55, 3) := by decide +kernel
theorem d_X9_unfold_73 : decode cX9_unfold 73 = .ok (.iastore, 1) := by decide +kernel
theorem d_X9_unfold_74 : decode cX9_unfold 74 = .ok (.iinc 3 1, 3) := by decide +kernel
theorem d_X9_unfold_77 : decode cX9_unfold 77 = .ok (.goto (-49), 3) := by decide +kernel
theorem d_X9_unfold_80 : decode cX9_unfold 80 = .ok (.iconst 1, 1) := by decide +kernel
theorem d_X9_unfold_81 : decode cX9_unfold 81 = .ok (.ireturn, 1) := by decide +kernel
def f_X9_unfold_28b (F : Nat) (kb28 : Int32 → sm_M → Option (Int32 × sm_M)) (x3 : Int32) (M : sm_M) : Option (Int32 × sm_M) := if (M.1 65 1) ≤ x3 then (some ((1 : Int32), M)) else (sm_g (sm_ib x3 200) (sm_g (sm_ib (M.1 17 x3.toNatClampNeg) 200) ((f_X1_numberAt F (M.1 3 (M.1 17 x3.toNatClampNeg).toNatClampNeg) (M.1 1 2) (0 : Int32) M).bind fun q4 => sm_g (sm_ib x3 240) (kb28 (x3 + 1) ((sm_mi M 66 x3.toNatClampNeg q4))))))
set_option maxRecDepth 100000 in
set_option maxHeartbeats 4000000 in
theorem j_X9_unfold_28b {sk : List sm_Sh} (hx : sm_ext skX sk) (F : Nat) (kb28 : Int32 → sm_M → Option (Int32 × sm_M)) (hkb28 : ∀ (x3 : Int32) (M : sm_M) (r : Int32 × sm_M), kb28 x3 M = some r → sm_J (md_X9_unfold, 3, sk, .inl (some (.int r.1)), r.2) 28 [some (.ref 64), some (.ref 1), some (.ref 5), some (.int x3), none] [] M) : ∀ (x3 : Int32) (M : sm_M) (r : Int32 × sm_M), f_X9_unfold_28b F kb28 x3 M = some r → sm_J (md_X9_unfold, 3, sk, .inl (some (.int r.1)), r.2) 28 [some (.ref 64), some (.ref 1), some (.ref 5), some (.int x3), none] [] M := by
  intro x3  M r h
  unfold f_X9_unfold_28b at h
  refine sm_iload_n (q := 29) d_X9_unfold_28 rfl rfl ?_
  refine sm_aload_n (q := 30) d_X9_unfold_29 rfl rfl ?_
  refine sm_getr (q := 33) d_X9_unfold_30 rfl fl_X9_12 (hx sx_64) rfl ?_
  refine sm_geti (q := 36) d_X9_unfold_33 rfl fl_X9_24 (hx sx_65) rfl ?_
  refine sm_icmp_ge (q := 39) (t := 80) d_X9_unfold_36 rfl rfl (fun c1 => ?_) (fun c1 => ?_)
  · replace h := sm_it c1 h
    refine sm_iconst (q := 81) d_X9_unfold_80 rfl ci_1 ?_
    obtain rfl := Option.some.inj h
    exact sm_iret d_X9_unfold_81 rfl (by decide) rfl rfl
  · replace h := sm_if c1 h
    refine sm_aload_n (q := 40) d_X9_unfold_39 rfl rfl ?_
    refine sm_getr (q := 43) d_X9_unfold_40 rfl fl_X9_36 (hx sx_1) rfl ?_
    refine sm_getr (q := 46) d_X9_unfold_43 rfl fl_X9_40 (hx sx_2) rfl ?_
    refine sm_aload_n (q := 47) d_X9_unfold_46 rfl rfl ?_
    refine sm_getr (q := 50) d_X9_unfold_47 rfl fl_X9_46 (hx sx_5) rfl ?_
    refine sm_iload_n (q := 51) d_X9_unfold_50 rfl rfl ?_
    obtain ⟨g2, h⟩ := sm_gt h
    refine sm_iaload (q := 52) d_X9_unfold_51 rfl (hx sx_17) (sm_ib_of g2) ?_
    obtain ⟨g3, h⟩ := sm_gt h
    refine sm_iaload (q := 53) d_X9_unfold_52 rfl (hx sx_3) (sm_ib_of g3) ?_
    refine sm_istore (q := 55) (lt := [some (.ref 64), some (.ref 1), some (.ref 5), some (.int x3), some (.int (M.1 3 (M.1 17 x3.toNatClampNeg).toNatClampNeg))]) d_X9_unfold_53 rfl (Nat.le_of_ble_eq_true rfl) rfl rfl ?_
    refine sm_aload_n (q := 56) d_X9_unfold_55 rfl rfl ?_
    refine sm_getr (q := 59) d_X9_unfold_56 rfl fl_X9_12 (hx sx_64) rfl ?_
    refine sm_getr (q := 62) d_X9_unfold_59 rfl fl_X9_49 (hx sx_65) rfl ?_
    refine sm_iload_n (q := 63) d_X9_unfold_62 rfl rfl ?_
    refine sm_iload (q := 65) d_X9_unfold_63 rfl rfl ?_
    refine sm_aload_n (q := 66) d_X9_unfold_65 rfl rfl ?_
    refine sm_geti (q := 69) d_X9_unfold_66 rfl fl_X9_52 (hx sx_1) rfl ?_
    refine sm_iconst (q := 70) d_X9_unfold_69 rfl ci_0 ?_
    obtain ⟨q4, e4, h⟩ := sm_bd h
    refine sm_callS (q := 73) (d' := 0) [.int x3, .ref 66] [.int (M.1 3 (M.1 17 x3.toNatClampNeg).toNatClampNeg), .int (M.1 1 2), .int (0 : Int32)] d_X9_unfold_70 rfl lk_X9_55 rfl (Nat.le_of_ble_eq_true rfl) (Nat.le_of_ble_eq_true rfl) (c_X1_numberAt hx F (M.1 3 (M.1 17 x3.toNatClampNeg).toNatClampNeg) (M.1 1 2) (0 : Int32) M _ e4) (st9 := [.int q4, .int x3, .ref 66]) rfl ?_
    obtain ⟨g5, h⟩ := sm_gt h
    refine sm_iastore (q := 74) d_X9_unfold_73 rfl (hx sx_66) (sm_ib_of g5) ?_
    refine sm_iinc (q := 77) (v := (x3 + 1)) (lt := [some (.ref 64), some (.ref 1), some (.ref 5), some (.int (x3 + 1)), some (.int (M.1 3 (M.1 17 x3.toNatClampNeg).toNatClampNeg))]) d_X9_unfold_74 rfl rfl (ii_1 _) (Nat.le_of_ble_eq_true rfl) rfl rfl ?_
    refine sm_goto (t := 28) d_X9_unfold_77 rfl ?_
    refine sm_fg [4] ?_
    exact hkb28 (x3 + 1) ((sm_mi M 66 x3.toNatClampNeg q4)) _ h
def f_X9_unfold_28 (F : Nat) (n : Nat) : Int32 → sm_M → Option (Int32 × sm_M) := match n with
 | 0 => fun _ _ => none
 | n + 1 => f_X9_unfold_28b F (f_X9_unfold_28 F n)
theorem j_X9_unfold_28 {sk : List sm_Sh} (hx : sm_ext skX sk) (F : Nat) : ∀ (n : Nat) (x3 : Int32) (M : sm_M) (r : Int32 × sm_M), f_X9_unfold_28 F n x3 M = some r → sm_J (md_X9_unfold, 3, sk, .inl (some (.int r.1)), r.2) 28 [some (.ref 64), some (.ref 1), some (.ref 5), some (.int x3), none] [] M := by
  intro n
  induction n with
  | zero => intro x3  M r h; exact nomatch (show (none : Option (Int32 × sm_M)) = some r from h)
  | succ n ih => exact j_X9_unfold_28b hx F (f_X9_unfold_28 F n) ih
def f_X9_unfold (F : Nat) (M : sm_M) : Option (Int32 × sm_M) := if (((sm_mi M 65 1 (M.1 5 10))).1 1 1) = (1 : Int32) then ((f_X9_unfoldPatterns F (sm_mi M 65 1 (M.1 5 10))).bind fun q2 => sm_g (sm_nar .boolean q2.1) (some (q2.1, q2.2))) else (f_X9_unfold_28 F F (0 : Int32) ((sm_mi M 65 1 (M.1 5 10))))
set_option maxRecDepth 100000 in
set_option maxHeartbeats 4000000 in
theorem j_X9_unfold {sk : List sm_Sh} (hx : sm_ext skX sk) (F : Nat) : ∀ (M : sm_M) (r : Int32 × sm_M), f_X9_unfold F M = some r → sm_J (md_X9_unfold, 3, sk, .inl (some (.int r.1)), r.2) 0 [some (.ref 64), some (.ref 1), some (.ref 5), none, none] [] M := by
  intro   M r h
  unfold f_X9_unfold at h
  refine sm_aload_n (q := 1) d_X9_unfold_0 rfl rfl ?_
  refine sm_getr (q := 4) d_X9_unfold_1 rfl fl_X9_12 (hx sx_64) rfl ?_
  refine sm_aload_n (q := 5) d_X9_unfold_4 rfl rfl ?_
  refine sm_geti (q := 8) d_X9_unfold_5 rfl fl_X9_18 (hx sx_5) rfl ?_
  refine sm_puti (q := 11) d_X9_unfold_8 rfl fw_X9_24 (hx sx_65) rfl rfl rfl ?_
  refine sm_aload_n (q := 12) d_X9_unfold_11 rfl rfl ?_
  refine sm_geti (q := 15) d_X9_unfold_12 rfl fl_X9_27 (hx sx_1) rfl ?_
  refine sm_iconst (q := 16) d_X9_unfold_15 rfl ci_1 ?_
  refine sm_icmp_ne (q := 19) (t := 26) d_X9_unfold_16 rfl rfl (fun c1 => ?_) (fun c1 => ?_)
  · replace h := sm_if c1 h
    refine sm_iconst (q := 27) d_X9_unfold_26 rfl ci_0 ?_
    refine sm_istore_n (q := 28) (lt := [some (.ref 64), some (.ref 1), some (.ref 5), some (.int (0 : Int32)), none]) d_X9_unfold_27 rfl (Nat.le_of_ble_eq_true rfl) rfl rfl ?_
    exact j_X9_unfold_28 hx F F (0 : Int32) ((sm_mi M 65 1 (M.1 5 10))) _ h
  · replace h := sm_it c1 h
    refine sm_aload_n (q := 20) d_X9_unfold_19 rfl rfl ?_
    refine sm_aload_n (q := 21) d_X9_unfold_20 rfl rfl ?_
    refine sm_aload_n (q := 22) d_X9_unfold_21 rfl rfl ?_
    obtain ⟨q2, e2, h⟩ := sm_bd h
    refine sm_callV (q := 25) (d' := 2) [] [.ref 1, .ref 5] d_X9_unfold_22 rfl lk_X9_32 (hx sx_64) rfl rfl rfl (Nat.le_of_ble_eq_true rfl) (Nat.le_of_ble_eq_true rfl) (c_X9_unfoldPatterns hx F (sm_mi M 65 1 (M.1 5 10)) _ e2) (st9 := [.int q2.1]) rfl ?_
    obtain ⟨g3, h⟩ := sm_gt h
    obtain rfl := Option.some.inj h
    exact sm_iret d_X9_unfold_25 rfl (sm_nar_of g3).1 rfl rfl
theorem c_X9_unfold {sk : List sm_Sh} (hx : sm_ext skX sk) (F : Nat) (M : sm_M) (r : Int32 × sm_M) (h : f_X9_unfold F M = some r) : sm_Ct yX9_unfold md_X9_unfold 3 sk [.ref 64, .ref 1, .ref 5] M (.inl (some (.int r.1))) r.2 := sm_enter 2 pn_X9 rfl (Nat.le_of_ble_eq_true rfl) rfl (j_X9_unfold hx F M r h)
