/-! ===== methods, decompiled: 13.win ===== -/
/-! UniversalCycles$Windows.lookAt(LUniversalCycles$Family;LUniversalCycles$Row;)V -/
theorem d_X10_lookAt_0 : decode cX10_lookAt 0 = .ok (.aload_n 0, 1) := by decide +kernel
theorem d_X10_lookAt_1 : decode cX10_lookAt 1 = .ok (.aload_n 2, 1) := by decide +kernel
theorem d_X10_lookAt_2 : decode cX10_lookAt 2 = .ok (.getfield 25, 3) := by decide +kernel
theorem d_X10_lookAt_5 : decode cX10_lookAt 5 = .ok (.putfield 31, 3) := by decide +kernel
theorem d_X10_lookAt_8 : decode cX10_lookAt 8 = .ok (.aload_n 0, 1) := by decide +kernel
theorem d_X10_lookAt_9 : decode cX10_lookAt 9 = .ok (.aload_n 1, 1) := by decide +kernel
theorem d_X10_lookAt_10 : decode cX10_lookAt 10 = .ok (.getfield 34, 3) := by decide +kernel
theorem d_X10_lookAt_13 : decode cX10_lookAt 13 = .ok (.getfield 40, 3) := by decide +kernel
theorem d_X10_lookAt_16 : decode cX10_lookAt 16 = .ok (.putfield 43, 3) := by decide +kernel
theorem d_X10_lookAt_19 : decode cX10_lookAt 19 = .ok (.aload_n 0, 1) := by decide +kernel
theorem d_X10_lookAt_20 : decode cX10_lookAt 20 = .ok (.getfield 15, 3) := by decide +kernel
theorem d_X10_lookAt_23 : decode cX10_lookAt 23 = .ok (.iconst 0, 1) := by decide +kernel
theorem d_X10_lookAt_24 : decode cX10_lookAt 24 = .ok (.invokestatic 45, 3) := by decide +kernel
theorem d_X10_lookAt_27 : decode cX10_lookAt 27 = .ok (.iconst 0, 1) := by decide +kernel
theorem d_X10_lookAt_28 : decode cX10_lookAt 28 = .ok (.istore_n 3, 1) := by decide +kernel
theorem d_X10_lookAt_29 : decode cX10_lookAt 29 = .ok (.iload_n 3, 1) := by decide +kernel
theorem d_X10_lookAt_30 : decode cX10_lookAt 30 = .ok (.aload_n 0, 1) := by decide +kernel
theorem d_X10_lookAt_31 : decode cX10_lookAt 31 = .ok (.getfield 31, 3) := by decide +kernel
theorem d_X10_lookAt_34 : decode cX10_lookAt 34 = .ok (.if_icmp .ge 60, 3) := by decide +kernel
theorem d_X10_lookAt_37 : decode cX10_lookAt 37 = .ok (.aload_n 1, 1) := by decide +kernel
theorem d_X10_lookAt_38 : decode cX10_lookAt 38 = .ok (.aload_n 2, 1) := by decide +kernel
theorem d_X10_lookAt_39 : decode cX10_lookAt 39 = .ok (.iload_n 3, 1) := by decide +kernel
theorem d_X10_lookAt_40 : decode cX10_lookAt 40 = .ok (.invokevirtual 51, 3) := by decide +kernel
theorem d_X10_lookAt_43 : decode cX10_lookAt 43 = .ok (.istore 4, 2) := by decide +kernel
theorem d_X10_lookAt_45 : decode cX10_lookAt 45 = .ok (.aload_n 0, 1) := by decide +kernel
theorem d_X10_lookAt_46 : decode cX10_lookAt 46 = .ok (.getfield 9, 3) := by decide +kernel
theorem d_X10_lookAt_49 : decode cX10_lookAt 49 = .ok (.iload_n 3, 1) := by decide +kernel
theorem d_X10_lookAt_50 : decode cX10_lookAt 50 = .ok (.iload 4, 2) := by decide +kernel
theorem d_X10_lookAt_52 : decode cX10_lookAt 52 = .ok (.iastore, 1) := by decide +kernel
theorem d_X10_lookAt_53 : decode cX10_lookAt 53 = .ok (.iload 4, 2) := by decide +kernel
theorem d_X10_lookAt_55 : decode cX10_lookAt 55 = .ok (.iconst (-1), 1) := by decide +kernel
theorem d_X10_lookAt_56 : decode cX10_lookAt 56 = .ok (.if_icmp .eq 32, 3) := by decide +kernel
theorem d_X10_lookAt_59 : decode cX10_lookAt 59 = .ok (.aload_n 0, 1) := by decide +kernel
theorem d_X10_lookAt_60 : decode cX10_lookAt 60 = .ok (.getfield 15, 3) := by decide +kernel
theorem d_X10_lookAt_63 : decode cX10_lookAt 63 = .ok (.iload 4, 2) := by decide +kernel
theorem d_X10_lookAt_65 : decode cX10_lookAt 65 = .ok (.iaload, 1) := by decide +kernel
theorem d_X10_lookAt_66 : decode cX10_lookAt 66 = .ok (.ifCond .ne 11, 3) := by decide +kernel
theorem d_X10_lookAt_69 : decode cX10_lookAt 69 = .ok (.aload_n 0, 1) := by decide +kernel
theorem d_X10_lookAt_70 : decode cX10_lookAt 70 = .ok (.getfield 18, 3) := by decide +kernel
theorem d_X10_lookAt_73 : decode cX10_lookAt 73 = .ok (.iload 4, 2) := by decide +kernel
theorem d_X10_lookAt_75 : decode cX10_lookAt 75 = .ok (.iload_n 3, 1) := by decide +kernel
theorem d_X10_lookAt_76 : decode cX10_lookAt 76 = .ok (.iastore, 1) := by decide +kernel
theorem d_X10_lookAt_77 : decode cX10_lookAt 77 = .ok (.aload_n 0, 1) := by decide +kernel
theorem d_X10_lookAt_78 : decode cX10_lookAt 78 = .ok (.getfield 15, 3) := by decide +kernel
theorem d_X10_lookAt_81 : decode cX10_lookAt 81 = .ok (.iload 4, 2) := by decide +kernel
theorem d_X10_lookAt_83 : decode cX10_lookAt 83 = .ok (.dup2, 1) := by decide +kernel
theorem d_X10_lookAt_84 : decode cX10_lookAt 84 = .ok (.iaload, 1) := by decide +kernel
theorem d_X10_lookAt_85 : decode cX10_lookAt 85 = .ok (.iconst 1, 1) := by decide +kernel
theorem d_X10_lookAt_86 : decode cX10_lookAt 86 = .ok (.iadd, 1) := by decide +kernel
theorem d_X10_lookAt_87 : decode cX10_lookAt 87 = .ok (.iastore, 1) := by decide +kernel
theorem d_X10_lookAt_88 : decode cX10_lookAt 88 = .ok (.iinc 3 1, 3) := by decide +kernel
theorem d_X10_lookAt_91 : decode cX10_lookAt 91 = .ok (.goto (-62), 3) := by decide +kernel
theorem d_X10_lookAt_94 : decode cX10_lookAt 94 = .ok (.return_, 1) := by decide +kernel
def f_X10_lookAt_88 (F : Nat) (a2 : Nat) (kb29 : Int32 → sm_M → Option (sm_M)) (x3 : Int32) (M : sm_M) : Option (sm_M) := kb29 (x3 + 1) M
set_option maxRecDepth 100000 in
set_option maxHeartbeats 4000000 in
theorem j_X10_lookAt_88 {sk : List sm_Sh} (hx : sm_ext skX sk) (F : Nat) (a2 : Nat) (ha2 : sm_row sk a2) (kb29 : Int32 → sm_M → Option (sm_M)) (hkb29 : ∀ (x3 : Int32) (M : sm_M) (r : sm_M), kb29 x3 M = some r → sm_J (md_X10_lookAt, 3, sk, .inl none, r) 29 [some (.ref 52), some (.ref 1), some (.ref a2), some (.int x3), none] [] M) : ∀ (x3 : Int32) (M : sm_M) (r : sm_M), f_X10_lookAt_88 F a2 kb29 x3 M = some r → sm_J (md_X10_lookAt, 3, sk, .inl none, r) 88 [some (.ref 52), some (.ref 1), some (.ref a2), some (.int x3), none] [] M := by
  intro x3  M r h
  unfold f_X10_lookAt_88 at h
  refine sm_iinc (q := 91) (v := (x3 + 1)) (lt := [some (.ref 52), some (.ref 1), some (.ref a2), some (.int (x3 + 1)), none]) d_X10_lookAt_88 rfl rfl (ii_1 _) (Nat.le_of_ble_eq_true rfl) rfl rfl ?_
  refine sm_goto (t := 29) d_X10_lookAt_91 rfl ?_
  exact hkb29 (x3 + 1) M _ h
def f_X10_lookAt_77 (F : Nat) (a2 : Nat) (kb29 : Int32 → sm_M → Option (sm_M)) (x3 : Int32) (x4 : Int32) (M : sm_M) : Option (sm_M) := sm_g (sm_ib x4 200) (sm_g (sm_ib x4 200) (f_X10_lookAt_88 F a2 kb29 x3 ((sm_mi M 54 x4.toNatClampNeg ((M.1 54 x4.toNatClampNeg) + (1 : Int32))))))
set_option maxRecDepth 100000 in
set_option maxHeartbeats 4000000 in
theorem j_X10_lookAt_77 {sk : List sm_Sh} (hx : sm_ext skX sk) (F : Nat) (a2 : Nat) (ha2 : sm_row sk a2) (kb29 : Int32 → sm_M → Option (sm_M)) (hkb29 : ∀ (x3 : Int32) (M : sm_M) (r : sm_M), kb29 x3 M = some r → sm_J (md_X10_lookAt, 3, sk, .inl none, r) 29 [some (.ref 52), some (.ref 1), some (.ref a2), some (.int x3), none] [] M) : ∀ (x3 : Int32) (x4 : Int32) (M : sm_M) (r : sm_M), f_X10_lookAt_77 F a2 kb29 x3 x4 M = some r → sm_J (md_X10_lookAt, 3, sk, .inl none, r) 77 [some (.ref 52), some (.ref 1), some (.ref a2), some (.int x3), some (.int x4)] [] M := by
  intro x3 x4  M r h
  unfold f_X10_lookAt_77 at h
  refine sm_aload_n (q := 78) d_X10_lookAt_77 rfl rfl ?_
  refine sm_getr (q := 81) d_X10_lookAt_78 rfl fl_X10_15 (hx sx_52) rfl ?_
  refine sm_iload (q := 83) d_X10_lookAt_81 rfl rfl ?_
  refine sm_dup2 (q := 84) d_X10_lookAt_83 rfl rfl rfl ?_
  obtain ⟨g1, h⟩ := sm_gt h
  refine sm_iaload (q := 85) d_X10_lookAt_84 rfl (hx sx_54) (sm_ib_of g1) ?_
  refine sm_iconst (q := 86) d_X10_lookAt_85 rfl ci_1 ?_
  refine sm_iadd (q := 87) d_X10_lookAt_86 rfl ?_
  obtain ⟨g2, h⟩ := sm_gt h
  refine sm_iastore (q := 88) d_X10_lookAt_87 rfl (hx sx_54) (sm_ib_of g2) ?_
  refine sm_fg [4] ?_
  exact j_X10_lookAt_88 hx F a2 ha2 kb29 hkb29 x3 ((sm_mi M 54 x4.toNatClampNeg ((M.1 54 x4.toNatClampNeg) + (1 : Int32)))) _ h
def f_X10_lookAt_29b (F : Nat) (a2 : Nat) (kb29 : Int32 → sm_M → Option (sm_M)) (x3 : Int32) (M : sm_M) : Option (sm_M) := if (M.1 52 4) ≤ x3 then (some M) else ((f_X2_shownBy F a2 x3 M).bind fun q2 => sm_g (sm_ib x3 240) (if q2 = (-1 : Int32) then (f_X10_lookAt_88 F a2 kb29 x3 ((sm_mi M 53 x3.toNatClampNeg q2))) else (sm_g (sm_ib q2 200) (if ((sm_mi M 53 x3.toNatClampNeg q2).1 54 q2.toNatClampNeg) = 0 then (sm_g (sm_ib q2 200) (f_X10_lookAt_77 F a2 kb29 x3 q2 ((sm_mi (sm_mi M 53 x3.toNatClampNeg q2) 55 q2.toNatClampNeg x3)))) else (f_X10_lookAt_77 F a2 kb29 x3 q2 ((sm_mi M 53 x3.toNatClampNeg q2)))))))
set_option maxRecDepth 100000 in
set_option maxHeartbeats 4000000 in
theorem j_X10_lookAt_29b {sk : List sm_Sh} (hx : sm_ext skX sk) (F : Nat) (a2 : Nat) (ha2 : sm_row sk a2) (kb29 : Int32 → sm_M → Option (sm_M)) (hkb29 : ∀ (x3 : Int32) (M : sm_M) (r : sm_M), kb29 x3 M = some r → sm_J (md_X10_lookAt, 3, sk, .inl none, r) 29 [some (.ref 52), some (.ref 1), some (.ref a2), some (.int x3), none] [] M) : ∀ (x3 : Int32) (M : sm_M) (r : sm_M), f_X10_lookAt_29b F a2 kb29 x3 M = some r → sm_J (md_X10_lookAt, 3, sk, .inl none, r) 29 [some (.ref 52), some (.ref 1), some (.ref a2), some (.int x3), none] [] M := by
  intro x3  M r h
  unfold f_X10_lookAt_29b at h
  refine sm_iload_n (q := 30) d_X10_lookAt_29 rfl rfl ?_
  refine sm_aload_n (q := 31) d_X10_lookAt_30 rfl rfl ?_
  refine sm_geti (q := 34) d_X10_lookAt_31 rfl fl_X10_31 (hx sx_52) rfl ?_
  refine sm_icmp_ge (q := 37) (t := 94) d_X10_lookAt_34 rfl rfl (fun c1 => ?_) (fun c1 => ?_)
  · replace h := sm_it c1 h
    obtain rfl := Option.some.inj h
    exact sm_vret d_X10_lookAt_94 rfl rfl rfl
  · replace h := sm_if c1 h
    refine sm_aload_n (q := 38) d_X10_lookAt_37 rfl rfl ?_
    refine sm_aload_n (q := 39) d_X10_lookAt_38 rfl rfl ?_
    refine sm_iload_n (q := 40) d_X10_lookAt_39 rfl rfl ?_
    obtain ⟨q2, e2, h⟩ := sm_bd h
    refine sm_callV (q := 43) (d' := 2) [] [.ref a2, .int x3] d_X10_lookAt_40 rfl lk_X10_51 (hx sx_1) rfl rfl rfl (Nat.le_of_ble_eq_true rfl) (Nat.le_of_ble_eq_true rfl) (c_X2_shownBy hx F a2 ha2 x3 M _ e2) (st9 := [.int q2]) rfl ?_
    refine sm_istore (q := 45) (lt := [some (.ref 52), some (.ref 1), some (.ref a2), some (.int x3), some (.int q2)]) d_X10_lookAt_43 rfl (Nat.le_of_ble_eq_true rfl) rfl rfl ?_
    refine sm_aload_n (q := 46) d_X10_lookAt_45 rfl rfl ?_
    refine sm_getr (q := 49) d_X10_lookAt_46 rfl fl_X10_9 (hx sx_52) rfl ?_
    refine sm_iload_n (q := 50) d_X10_lookAt_49 rfl rfl ?_
    refine sm_iload (q := 52) d_X10_lookAt_50 rfl rfl ?_
    obtain ⟨g3, h⟩ := sm_gt h
    refine sm_iastore (q := 53) d_X10_lookAt_52 rfl (hx sx_53) (sm_ib_of g3) ?_
    refine sm_iload (q := 55) d_X10_lookAt_53 rfl rfl ?_
    refine sm_iconst (q := 56) d_X10_lookAt_55 rfl ci_m1 ?_
    refine sm_icmp_eq (q := 59) (t := 88) d_X10_lookAt_56 rfl rfl (fun c4 => ?_) (fun c4 => ?_)
    · replace h := sm_it c4 h
      refine sm_fg [4] ?_
      exact j_X10_lookAt_88 hx F a2 ha2 kb29 hkb29 x3 ((sm_mi M 53 x3.toNatClampNeg q2)) _ h
    · replace h := sm_if c4 h
      refine sm_aload_n (q := 60) d_X10_lookAt_59 rfl rfl ?_
      refine sm_getr (q := 63) d_X10_lookAt_60 rfl fl_X10_15 (hx sx_52) rfl ?_
      refine sm_iload (q := 65) d_X10_lookAt_63 rfl rfl ?_
      obtain ⟨g5, h⟩ := sm_gt h
      refine sm_iaload (q := 66) d_X10_lookAt_65 rfl (hx sx_54) (sm_ib_of g5) ?_
      refine sm_if_ne (q := 69) (t := 77) d_X10_lookAt_66 rfl rfl (fun c6 => ?_) (fun c6 => ?_)
      · replace h := sm_if c6 h
        exact j_X10_lookAt_77 hx F a2 ha2 kb29 hkb29 x3 q2 ((sm_mi M 53 x3.toNatClampNeg q2)) _ h
      · replace h := sm_it c6 h
        refine sm_aload_n (q := 70) d_X10_lookAt_69 rfl rfl ?_
        refine sm_getr (q := 73) d_X10_lookAt_70 rfl fl_X10_18 (hx sx_52) rfl ?_
        refine sm_iload (q := 75) d_X10_lookAt_73 rfl rfl ?_
        refine sm_iload_n (q := 76) d_X10_lookAt_75 rfl rfl ?_
        obtain ⟨g7, h⟩ := sm_gt h
        refine sm_iastore (q := 77) d_X10_lookAt_76 rfl (hx sx_55) (sm_ib_of g7) ?_
        exact j_X10_lookAt_77 hx F a2 ha2 kb29 hkb29 x3 q2 ((sm_mi (sm_mi M 53 x3.toNatClampNeg q2) 55 q2.toNatClampNeg x3)) _ h
def f_X10_lookAt_29 (F : Nat) (a2 : Nat) (n : Nat) : Int32 → sm_M → Option (sm_M) := match n with
 | 0 => fun _ _ => none
 | n + 1 => f_X10_lookAt_29b F a2 (f_X10_lookAt_29 F a2 n)
theorem j_X10_lookAt_29 {sk : List sm_Sh} (hx : sm_ext skX sk) (F : Nat) (a2 : Nat) (ha2 : sm_row sk a2) : ∀ (n : Nat) (x3 : Int32) (M : sm_M) (r : sm_M), f_X10_lookAt_29 F a2 n x3 M = some r → sm_J (md_X10_lookAt, 3, sk, .inl none, r) 29 [some (.ref 52), some (.ref 1), some (.ref a2), some (.int x3), none] [] M := by
  intro n
  induction n with
  | zero => intro x3  M r h; exact nomatch (show (none : Option (sm_M)) = some r from h)
  | succ n ih => exact j_X10_lookAt_29b hx F a2 ha2 (f_X10_lookAt_29 F a2 n) ih
def f_X10_lookAt (F : Nat) (a2 : Nat) (M : sm_M) : Option (sm_M) := (f_J7_fill_53178 F 54 200 (0 : Int32) (sm_mi (sm_mi M 52 4 (M.1 a2 1)) 52 5 (((sm_mi M 52 4 (M.1 a2 1))).1 2 2))).bind fun q1 => f_X10_lookAt_29 F a2 F (0 : Int32) q1
set_option maxRecDepth 100000 in
set_option maxHeartbeats 4000000 in
theorem j_X10_lookAt {sk : List sm_Sh} (hx : sm_ext skX sk) (F : Nat) (a2 : Nat) (ha2 : sm_row sk a2) : ∀ (M : sm_M) (r : sm_M), f_X10_lookAt F a2 M = some r → sm_J (md_X10_lookAt, 3, sk, .inl none, r) 0 [some (.ref 52), some (.ref 1), some (.ref a2), none, none] [] M := by
  intro   M r h
  unfold f_X10_lookAt at h
  refine sm_aload_n (q := 1) d_X10_lookAt_0 rfl rfl ?_
  refine sm_aload_n (q := 2) d_X10_lookAt_1 rfl rfl ?_
  refine sm_geti (q := 5) d_X10_lookAt_2 rfl fl_X10_25 ha2.1 rfl ?_
  refine sm_puti (q := 8) d_X10_lookAt_5 rfl fw_X10_31 (hx sx_52) rfl rfl rfl ?_
  refine sm_aload_n (q := 9) d_X10_lookAt_8 rfl rfl ?_
  refine sm_aload_n (q := 10) d_X10_lookAt_9 rfl rfl ?_
  refine sm_getr (q := 13) d_X10_lookAt_10 rfl fl_X10_34 (hx sx_1) rfl ?_
  refine sm_geti (q := 16) d_X10_lookAt_13 rfl fl_X10_40 (hx sx_2) rfl ?_
  refine sm_puti (q := 19) d_X10_lookAt_16 rfl fw_X10_43 (hx sx_52) rfl rfl rfl ?_
  refine sm_aload_n (q := 20) d_X10_lookAt_19 rfl rfl ?_
  refine sm_getr (q := 23) d_X10_lookAt_20 rfl fl_X10_15 (hx sx_52) rfl ?_
  refine sm_iconst (q := 24) d_X10_lookAt_23 rfl ci_0 ?_
  obtain ⟨q1, e1, h⟩ := sm_bd h
  refine sm_callS (q := 27) (d' := 0) [] [.ref 54, .int (0 : Int32)] d_X10_lookAt_24 rfl lk_X10_45 rfl (Nat.le_of_ble_eq_true rfl) (Nat.le_of_ble_eq_true rfl) (c_J7_fill_53178 hx F 54 200 (hx sx_54) (0 : Int32) (sm_mi (sm_mi M 52 4 (M.1 a2 1)) 52 5 (((sm_mi M 52 4 (M.1 a2 1))).1 2 2)) _ e1) (st9 := []) rfl ?_
  refine sm_iconst (q := 28) d_X10_lookAt_27 rfl ci_0 ?_
  refine sm_istore_n (q := 29) (lt := [some (.ref 52), some (.ref 1), some (.ref a2), some (.int (0 : Int32)), none]) d_X10_lookAt_28 rfl (Nat.le_of_ble_eq_true rfl) rfl rfl ?_
  exact j_X10_lookAt_29 hx F a2 ha2 F (0 : Int32) q1 _ h
theorem c_X10_lookAt {sk : List sm_Sh} (hx : sm_ext skX sk) (F : Nat) (a2 : Nat) (ha2 : sm_row sk a2) (M : sm_M) (r : sm_M) (h : f_X10_lookAt F a2 M = some r) : sm_Ct yX10_lookAt md_X10_lookAt 3 sk [.ref 52, .ref 1, .ref a2] M (.inl none) r := sm_enter 2 pn_X10 rfl (Nat.le_of_ble_eq_true rfl) rfl (j_X10_lookAt hx F a2 ha2 M r h)
/-! UniversalCycles$Windows.invalidPosition()I -/
theorem d_X10_invalidPosition_0 : decode cX10_invalidPosition 0 = .ok (.iconst 0, 1) := by decide +kernel
theorem d_X10_invalidPosition_1 : decode cX10_invalidPosition 1 = .ok (.istore_n 1, 1) := by decide +kernel
theorem d_X10_invalidPosition_2 : decode cX10_invalidPosition 2 = .ok (.iload_n 1, 1) := by decide +kernel
theorem d_X10_invalidPosition_3 : decode cX10_invalidPosition 3 = .ok (.aload_n 0, 1) := by decide +kernel
theorem d_X10_invalidPosition_4 : decode cX10_invalidPosition 4 = .ok (.getfield 31, 3) := by decide +kernel
theorem d_X10_invalidPosition_7 : decode cX10_invalidPosition 7 = .ok (.if_icmp .ge 21, 3) := by decide +kernel
theorem d_X10_invalidPosition_10 : decode cX10_invalidPosition 10 = .ok (.aload_n 0, 1) := by decide +kernel
theorem d_X10_invalidPosition_11 : decode cX10_invalidPosition 11 = .ok (.getfield 9, 3) := by decide +kernel
theorem d_X10_invalidPosition_14 : decode cX10_invalidPosition 14 = .ok (.iload_n 1, 1) := by decide +kernel
theorem d_X10_invalidPosition_15 : decode cX10_invalidPosition 15 = .ok (.iaload, 1) := by decide +kernel
theorem d_X10_invalidPosition_16 : decode cX10_invalidPosition 16 = .ok (.iconst (-1), 1) := by decide +kernel
theorem d_X10_invalidPosition_17 : decode cX10_invalidPosition 17 = .ok (.if_icmp .ne 5, 3) := by decide +kernel
theorem d_X10_invalidPosition_20 : decode cX10_invalidPosition 20 = .ok (.iload_n 1, 1) := by decide +kernel
theorem d_X10_invalidPosition_21 : decode cX10_invalidPosition 21 = .ok (.ireturn, 1) := by decide +kernel
theorem d_X10_invalidPosition_22 : decode cX10_invalidPosition 22 = .ok (.iinc 1 1, 3) := by decide +kernel
theorem d_X10_invalidPosition_25 : decode cX10_invalidPosition 25 = .ok (.goto (-23), 3) := by decide +kernel
theorem d_X10_invalidPosition_28 : decode cX10_invalidPosition 28 = .ok (.iconst (-1), 1) := by decide +kernel
theorem d_X10_invalidPosition_29 : decode cX10_invalidPosition 29 = .ok (.ireturn, 1) := by decide +kernel
def f_X10_invalidPosition_2b (F : Nat) (kb2 : Int32 → sm_M → Option (Int32)) (x1 : Int32) (M : sm_M) : Option (Int32) := if (M.1 52 4) ≤ x1 then (some (-1 : Int32)) else (sm_g (sm_ib x1 240) (if (M.1 53 x1.toNatClampNeg) = (-1 : Int32) then (some x1) else (kb2 (x1 + 1) M)))
set_option maxRecDepth 100000 in
set_option maxHeartbeats 4000000 in
theorem j_X10_invalidPosition_2b {sk : List sm_Sh} (hx : sm_ext skX sk) (F : Nat) (kb2 : Int32 → sm_M → Option (Int32)) (hkb2 : ∀ (x1 : Int32) (M : sm_M) (r : Int32), kb2 x1 M = some r → sm_J (md_X10_invalidPosition, 0, sk, .inl (some (.int r)), M) 2 [some (.ref 52), some (.int x1)] [] M) : ∀ (x1 : Int32) (M : sm_M) (r : Int32), f_X10_invalidPosition_2b F kb2 x1 M = some r → sm_J (md_X10_invalidPosition, 0, sk, .inl (some (.int r)), M) 2 [some (.ref 52), some (.int x1)] [] M := by
  intro x1  M r h
  unfold f_X10_invalidPosition_2b at h
  refine sm_iload_n (q := 3) d_X10_invalidPosition_2 rfl rfl ?_
  refine sm_aload_n (q := 4) d_X10_invalidPosition_3 rfl rfl ?_
  refine sm_geti (q := 7) d_X10_invalidPosition_4 rfl fl_X10_31 (hx sx_52) rfl ?_
  refine sm_icmp_ge (q := 10) (t := 28) d_X10_invalidPosition_7 rfl rfl (fun c1 => ?_) (fun c1 => ?_)
  · replace h := sm_it c1 h
    refine sm_iconst (q := 29) d_X10_invalidPosition_28 rfl ci_m1 ?_
    obtain rfl := Option.some.inj h
    exact sm_iret d_X10_invalidPosition_29 rfl rfl rfl rfl
  · replace h := sm_if c1 h
    refine sm_aload_n (q := 11) d_X10_invalidPosition_10 rfl rfl ?_
    refine sm_getr (q := 14) d_X10_invalidPosition_11 rfl fl_X10_9 (hx sx_52) rfl ?_
    refine sm_iload_n (q := 15) d_X10_invalidPosition_14 rfl rfl ?_
    obtain ⟨g2, h⟩ := sm_gt h
    refine sm_iaload (q := 16) d_X10_invalidPosition_15 rfl (hx sx_53) (sm_ib_of g2) ?_
    refine sm_iconst (q := 17) d_X10_invalidPosition_16 rfl ci_m1 ?_
    refine sm_icmp_ne (q := 20) (t := 22) d_X10_invalidPosition_17 rfl rfl (fun c3 => ?_) (fun c3 => ?_)
    · replace h := sm_if c3 h
      refine sm_iinc (q := 25) (v := (x1 + 1)) (lt := [some (.ref 52), some (.int (x1 + 1))]) d_X10_invalidPosition_22 rfl rfl (ii_1 _) (Nat.le_of_ble_eq_true rfl) rfl rfl ?_
      refine sm_goto (t := 2) d_X10_invalidPosition_25 rfl ?_
      exact hkb2 (x1 + 1) M _ h
    · replace h := sm_it c3 h
      refine sm_iload_n (q := 21) d_X10_invalidPosition_20 rfl rfl ?_
      obtain rfl := Option.some.inj h
      exact sm_iret d_X10_invalidPosition_21 rfl rfl rfl rfl
def f_X10_invalidPosition_2 (F : Nat) (n : Nat) : Int32 → sm_M → Option (Int32) := match n with
 | 0 => fun _ _ => none
 | n + 1 => f_X10_invalidPosition_2b F (f_X10_invalidPosition_2 F n)
theorem j_X10_invalidPosition_2 {sk : List sm_Sh} (hx : sm_ext skX sk) (F : Nat) : ∀ (n : Nat) (x1 : Int32) (M : sm_M) (r : Int32), f_X10_invalidPosition_2 F n x1 M = some r → sm_J (md_X10_invalidPosition, 0, sk, .inl (some (.int r)), M) 2 [some (.ref 52), some (.int x1)] [] M := by
  intro n
  induction n with
  | zero => intro x1  M r h; exact nomatch (show (none : Option (Int32)) = some r from h)
  | succ n ih => exact j_X10_invalidPosition_2b hx F (f_X10_invalidPosition_2 F n) ih
def f_X10_invalidPosition (F : Nat) (M : sm_M) : Option (Int32) := f_X10_invalidPosition_2 F F (0 : Int32) M
set_option maxRecDepth 100000 in
set_option maxHeartbeats 4000000 in
theorem j_X10_invalidPosition {sk : List sm_Sh} (hx : sm_ext skX sk) (F : Nat) : ∀ (M : sm_M) (r : Int32), f_X10_invalidPosition F M = some r → sm_J (md_X10_invalidPosition, 0, sk, .inl (some (.int r)), M) 0 [some (.ref 52), none] [] M := by
  intro   M r h
  unfold f_X10_invalidPosition at h
  refine sm_iconst (q := 1) d_X10_invalidPosition_0 rfl ci_0 ?_
  refine sm_istore_n (q := 2) (lt := [some (.ref 52), some (.int (0 : Int32))]) d_X10_invalidPosition_1 rfl (Nat.le_of_ble_eq_true rfl) rfl rfl ?_
  exact j_X10_invalidPosition_2 hx F F (0 : Int32) M _ h
theorem c_X10_invalidPosition {sk : List sm_Sh} (hx : sm_ext skX sk) (F : Nat) (M : sm_M) (r : Int32) (h : f_X10_invalidPosition F M = some r) : sm_Ct yX10_invalidPosition md_X10_invalidPosition 0 sk [.ref 52] M (.inl (some (.int r))) M := sm_enter 1 pn_X10 rfl (Nat.le_of_ble_eq_true rfl) rfl (j_X10_invalidPosition hx F M r h)
/-! UniversalCycles$Windows.repeatPosition()I -/
theorem d_X10_repeatPosition_0 : decode cX10_repeatPosition 0 = .ok (.iconst 0, 1) := by decide +kernel
theorem d_X10_repeatPosition_1 : decode cX10_repeatPosition 1 = .ok (.istore_n 1, 1) := by decide +kernel
theorem d_X10_repeatPosition_2 : decode cX10_repeatPosition 2 = .ok (.iload_n 1, 1) := by decide +kernel
theorem d_X10_repeatPosition_3 : decode cX10_repeatPosition 3 = .ok (.aload_n 0, 1) := by decide +kernel
theorem d_X10_repeatPosition_4 : decode cX10_repeatPosition 4 = .ok (.getfield 31, 3) := by decide +kernel
theorem d_X10_repeatPosition_7 : decode cX10_repeatPosition 7 = .ok (.if_icmp .ge 33, 3) := by decide +kernel
theorem d_X10_repeatPosition_10 : decode cX10_repeatPosition 10 = .ok (.aload_n 0, 1) := by decide +kernel
theorem d_X10_repeatPosition_11 : decode cX10_repeatPosition 11 = .ok (.getfield 9, 3) := by decide +kernel
theorem d_X10_repeatPosition_14 : decode cX10_repeatPosition 14 = .ok (.iload_n 1, 1) := by decide +kernel
theorem d_X10_repeatPosition_15 : decode cX10_repeatPosition 15 = .ok (.iaload, 1) := by decide +kernel
theorem d_X10_repeatPosition_16 : decode cX10_repeatPosition 16 = .ok (.istore_n 2, 1) := by decide +kernel
theorem d_X10_repeatPosition_17 : decode cX10_repeatPosition 17 = .ok (.iload_n 2, 1) := by decide +kernel
theorem d_X10_repeatPosition_18 : decode cX10_repeatPosition 18 = .ok (.iconst (-1), 1) := by decide +kernel
theorem d_X10_repeatPosition_19 : decode cX10_repeatPosition 19 = .ok (.if_icmp .eq 15, 3) := by decide +kernel
theorem d_X10_repeatPosition_22 : decode cX10_repeatPosition 22 = .ok (.aload_n 0, 1) := by decide +kernel
theorem d_X10_repeatPosition_23 : decode cX10_repeatPosition 23 = .ok (.getfield 18, 3) := by decide +kernel
theorem d_X10_repeatPosition_26 : decode cX10_repeatPosition 26 = .ok (.iload_n 2, 1) := by decide +kernel
theorem d_X10_repeatPosition_27 : decode cX10_repeatPosition 27 = .ok (.iaload, 1) := by decide +kernel
theorem d_X10_repeatPosition_28 : decode cX10_repeatPosition 28 = .ok (.iload_n 1, 1) := by decide +kernel
theorem d_X10_repeatPosition_29 : decode cX10_repeatPosition 29 = .ok (.if_icmp .ge 5, 3) := by decide +kernel
theorem d_X10_repeatPosition_32 : decode cX10_repeatPosition 32 = .ok (.iload_n 1, 1) := by decide +kernel
theorem d_X10_repeatPosition_33 : decode cX10_repeatPosition 33 = .ok (.ireturn, 1) := by decide +kernel
theorem d_X10_repeatPosition_34 : decode cX10_repeatPosition 34 = .ok (.iinc 1 1, 3) := by decide +kernel
theorem d_X10_repeatPosition_37 : decode cX10_repeatPosition 37 = .ok (.goto (-35), 3) := by decide +kernel
theorem d_X10_repeatPosition_40 : decode cX10_repeatPosition 40 = .ok (.iconst (-1), 1) := by decide +kernel
theorem d_X10_repeatPosition_41 : decode cX10_repeatPosition 41 = .ok (.ireturn, 1) := by decide +kernel
def f_X10_repeatPosition_34 (F : Nat) (kb2 : Int32 → sm_M → Option (Int32)) (x1 : Int32) (M : sm_M) : Option (Int32) := kb2 (x1 + 1) M
set_option maxRecDepth 100000 in
set_option maxHeartbeats 4000000 in
theorem j_X10_repeatPosition_34 {sk : List sm_Sh} (hx : sm_ext skX sk) (F : Nat) (kb2 : Int32 → sm_M → Option (Int32)) (hkb2 : ∀ (x1 : Int32) (M : sm_M) (r : Int32), kb2 x1 M = some r → sm_J (md_X10_repeatPosition, 0, sk, .inl (some (.int r)), M) 2 [some (.ref 52), some (.int x1), none] [] M) : ∀ (x1 : Int32) (M : sm_M) (r : Int32), f_X10_repeatPosition_34 F kb2 x1 M = some r → sm_J (md_X10_repeatPosition, 0, sk, .inl (some (.int r)), M) 34 [some (.ref 52), some (.int x1), none] [] M := by
  intro x1  M r h
  unfold f_X10_repeatPosition_34 at h
  refine sm_iinc (q := 37) (v := (x1 + 1)) (lt := [some (.ref 52), some (.int (x1 + 1)), none]) d_X10_repeatPosition_34 rfl rfl (ii_1 _) (Nat.le_of_ble_eq_true rfl) rfl rfl ?_
  refine sm_goto (t := 2) d_X10_repeatPosition_37 rfl ?_
  exact hkb2 (x1 + 1) M _ h
def f_X10_repeatPosition_2b (F : Nat) (kb2 : Int32 → sm_M → Option (Int32)) (x1 : Int32) (M : sm_M) : Option (Int32) := if (M.1 52 4) ≤ x1 then (some (-1 : Int32)) else (sm_g (sm_ib x1 240) (if (M.1 53 x1.toNatClampNeg) = (-1 : Int32) then (f_X10_repeatPosition_34 F kb2 x1 M) else (sm_g (sm_ib (M.1 53 x1.toNatClampNeg) 200) (if x1 ≤ (M.1 55 (M.1 53 x1.toNatClampNeg).toNatClampNeg) then (f_X10_repeatPosition_34 F kb2 x1 M) else (some x1)))))
set_option maxRecDepth 100000 in
set_option maxHeartbeats 4000000 in
theorem j_X10_repeatPosition_2b {sk : List sm_Sh} (hx : sm_ext skX sk) (F : Nat) (kb2 : Int32 → sm_M → Option (Int32)) (hkb2 : ∀ (x1 : Int32) (M : sm_M) (r : Int32), kb2 x1 M = some r → sm_J (md_X10_repeatPosition, 0, sk, .inl (some (.int r)), M) 2 [some (.ref 52), some (.int x1), none] [] M) : ∀ (x1 : Int32) (M : sm_M) (r : Int32), f_X10_repeatPosition_2b F kb2 x1 M = some r → sm_J (md_X10_repeatPosition, 0, sk, .inl (some (.int r)), M) 2 [some (.ref 52), some (.int x1), none] [] M := by
  intro x1  M r h
  unfold f_X10_repeatPosition_2b at h
  refine sm_iload_n (q := 3) d_X10_repeatPosition_2 rfl rfl ?_
  refine sm_aload_n (q := 4) d_X10_repeatPosition_3 rfl rfl ?_
  refine sm_geti (q := 7) d_X10_repeatPosition_4 rfl fl_X10_31 (hx sx_52) rfl ?_
  refine sm_icmp_ge (q := 10) (t := 40) d_X10_repeatPosition_7 rfl rfl (fun c1 => ?_) (fun c1 => ?_)
  · replace h := sm_it c1 h
    refine sm_iconst (q := 41) d_X10_repeatPosition_40 rfl ci_m1 ?_
    obtain rfl := Option.some.inj h
    exact sm_iret d_X10_repeatPosition_41 rfl rfl rfl rfl
  · replace h := sm_if c1 h
    refine sm_aload_n (q := 11) d_X10_repeatPosition_10 rfl rfl ?_
    refine sm_getr (q := 14) d_X10_repeatPosition_11 rfl fl_X10_9 (hx sx_52) rfl ?_
    refine sm_iload_n (q := 15) d_X10_repeatPosition_14 rfl rfl ?_
    obtain ⟨g2, h⟩ := sm_gt h
    refine sm_iaload (q := 16) d_X10_repeatPosition_15 rfl (hx sx_53) (sm_ib_of g2) ?_
    refine sm_istore_n (q := 17) (lt := [some (.ref 52), some (.int x1), some (.int (M.1 53 x1.toNatClampNeg))]) d_X10_repeatPosition_16 rfl (Nat.le_of_ble_eq_true rfl) rfl rfl ?_
    refine sm_iload_n (q := 18) d_X10_repeatPosition_17 rfl rfl ?_
    refine sm_iconst (q := 19) d_X10_repeatPosition_18 rfl ci_m1 ?_
    refine sm_icmp_eq (q := 22) (t := 34) d_X10_repeatPosition_19 rfl rfl (fun c3 => ?_) (fun c3 => ?_)
    · replace h := sm_it c3 h
      refine sm_fg [2] ?_
      exact j_X10_repeatPosition_34 hx F kb2 hkb2 x1 M _ h
    · replace h := sm_if c3 h
      refine sm_aload_n (q := 23) d_X10_repeatPosition_22 rfl rfl ?_
      refine sm_getr (q := 26) d_X10_repeatPosition_23 rfl fl_X10_18 (hx sx_52) rfl ?_
      refine sm_iload_n (q := 27) d_X10_repeatPosition_26 rfl rfl ?_
      obtain ⟨g4, h⟩ := sm_gt h
      refine sm_iaload (q := 28) d_X10_repeatPosition_27 rfl (hx sx_55) (sm_ib_of g4) ?_
      refine sm_iload_n (q := 29) d_X10_repeatPosition_28 rfl rfl ?_
      refine sm_icmp_ge (q := 32) (t := 34) d_X10_repeatPosition_29 rfl rfl (fun c5 => ?_) (fun c5 => ?_)
      · replace h := sm_it c5 h
        refine sm_fg [2] ?_
        exact j_X10_repeatPosition_34 hx F kb2 hkb2 x1 M _ h
      · replace h := sm_if c5 h
        refine sm_iload_n (q := 33) d_X10_repeatPosition_32 rfl rfl ?_
        obtain rfl := Option.some.inj h
        exact sm_iret d_X10_repeatPosition_33 rfl rfl rfl rfl
def f_X10_repeatPosition_2 (F : Nat) (n : Nat) : Int32 → sm_M → Option (Int32) := match n with
 | 0 => fun _ _ => none
 | n + 1 => f_X10_repeatPosition_2b F (f_X10_repeatPosition_2 F n)
theorem j_X10_repeatPosition_2 {sk : List sm_Sh} (hx : sm_ext skX sk) (F : Nat) : ∀ (n : Nat) (x1 : Int32) (M : sm_M) (r : Int32), f_X10_repeatPosition_2 F n x1 M = some r → sm_J (md_X10_repeatPosition, 0, sk, .inl (some (.int r)), M) 2 [some (.ref 52), some (.int x1), none] [] M := by
  intro n
  induction n with
  | zero => intro x1  M r h; exact nomatch (show (none : Option (Int32)) = some r from h)
  | succ n ih => exact j_X10_repeatPosition_2b hx F (f_X10_repeatPosition_2 F n) ih
def f_X10_repeatPosition (F : Nat) (M : sm_M) : Option (Int32) := f_X10_repeatPosition_2 F F (0 : Int32) M
set_option maxRecDepth 100000 in
set_option maxHeartbeats 4000000 in
theorem j_X10_repeatPosition {sk : List sm_Sh} (hx : sm_ext skX sk) (F : Nat) : ∀ (M : sm_M) (r : Int32), f_X10_repeatPosition F M = some r → sm_J (md_X10_repeatPosition, 0, sk, .inl (some (.int r)), M) 0 [some (.ref 52), none, none] [] M := by
  intro   M r h
  unfold f_X10_repeatPosition at h
  refine sm_iconst (q := 1) d_X10_repeatPosition_0 rfl ci_0 ?_
  refine sm_istore_n (q := 2) (lt := [some (.ref 52), some (.int (0 : Int32)), none]) d_X10_repeatPosition_1 rfl (Nat.le_of_ble_eq_true rfl) rfl rfl ?_
  exact j_X10_repeatPosition_2 hx F F (0 : Int32) M _ h
theorem c_X10_repeatPosition {sk : List sm_Sh} (hx : sm_ext skX sk) (F : Nat) (M : sm_M) (r : Int32) (h : f_X10_repeatPosition F M = some r) : sm_Ct yX10_repeatPosition md_X10_repeatPosition 0 sk [.ref 52] M (.inl (some (.int r))) M := sm_enter 2 pn_X10 rfl (Nat.le_of_ble_eq_true rfl) rfl (j_X10_repeatPosition hx F M r h)
/-! UniversalCycles$Windows.missingElement()I -/
theorem d_X10_missingElement_0 : decode cX10_missingElement 0 = .ok (.iconst 0, 1) := by decide +kernel
theorem d_X10_missingElement_1 : decode cX10_missingElement 1 = .ok (.istore_n 1, 1) := by decide +kernel
theorem d_X10_missingElement_2 : decode cX10_missingElement 2 = .ok (.iload_n 1, 1) := by decide +kernel
theorem d_X10_missingElement_3 : decode cX10_missingElement 3 = .ok (.aload_n 0, 1) := by decide +kernel
theorem d_X10_missingElement_4 : decode cX10_missingElement 4 = .ok (.getfield 43, 3) := by decide +kernel
theorem d_X10_missingElement_7 : decode cX10_missingElement 7 = .ok (.if_icmp .ge 20, 3) := by decide +kernel
theorem d_X10_missingElement_10 : decode cX10_missingElement 10 = .ok (.aload_n 0, 1) := by decide +kernel
theorem d_X10_missingElement_11 : decode cX10_missingElement 11 = .ok (.getfield 15, 3) := by decide +kernel
theorem d_X10_missingElement_14 : decode cX10_missingElement 14 = .ok (.iload_n 1, 1) := by decide +kernel
theorem d_X10_missingElement_15 : decode cX10_missingElement 15 = .ok (.iaload, 1) := by decide +kernel
theorem d_X10_missingElement_16 : decode cX10_missingElement 16 = .ok (.ifCond .ne 5, 3) := by decide +kernel
theorem d_X10_missingElement_19 : decode cX10_missingElement 19 = .ok (.iload_n 1, 1) := by decide +kernel
theorem d_X10_missingElement_20 : decode cX10_missingElement 20 = .ok (.ireturn, 1) := by decide +kernel
theorem d_X10_missingElement_21 : decode cX10_missingElement 21 = .ok (.iinc 1 1, 3) := by decide +kernel
theorem d_X10_missingElement_24 : decode cX10_missingElement 24 = .ok (.goto (-22), 3) := by decide +kernel
theorem d_X10_missingElement_27 : decode cX10_missingElement 27 = .ok (.iconst (-1), 1) := by decide +kernel
theorem d_X10_missingElement_28 : decode cX10_missingElement 28 = .ok (.ireturn, 1) := by decide +kernel
def f_X10_missingElement_2b (F : Nat) (kb2 : Int32 → sm_M → Option (Int32)) (x1 : Int32) (M : sm_M) : Option (Int32) := if (M.1 52 5) ≤ x1 then (some (-1 : Int32)) else (sm_g (sm_ib x1 200) (if (M.1 54 x1.toNatClampNeg) = 0 then (some x1) else (kb2 (x1 + 1) M)))
set_option maxRecDepth 100000 in
set_option maxHeartbeats 4000000 in
theorem j_X10_missingElement_2b {sk : List sm_Sh} (hx : sm_ext skX sk) (F : Nat) (kb2 : Int32 → sm_M → Option (Int32)) (hkb2 : ∀ (x1 : Int32) (M : sm_M) (r : Int32), kb2 x1 M = some r → sm_J (md_X10_missingElement, 0, sk, .inl (some (.int r)), M) 2 [some (.ref 52), some (.int x1)] [] M) : ∀ (x1 : Int32) (M : sm_M) (r : Int32), f_X10_missingElement_2b F kb2 x1 M = some r → sm_J (md_X10_missingElement, 0, sk, .inl (some (.int r)), M) 2 [some (.ref 52), some (.int x1)] [] M := by
  intro x1  M r h
  unfold f_X10_missingElement_2b at h
  refine sm_iload_n (q := 3) d_X10_missingElement_2 rfl rfl ?_
  refine sm_aload_n (q := 4) d_X10_missingElement_3 rfl rfl ?_
  refine sm_geti (q := 7) d_X10_missingElement_4 rfl fl_X10_43 (hx sx_52) rfl ?_
  refine sm_icmp_ge (q := 10) (t := 27) d_X10_missingElement_7 rfl rfl (fun c1 => ?_) (fun c1 => ?_)
  · replace h := sm_it c1 h
    refine sm_iconst (q := 28) d_X10_missingElement_27 rfl ci_m1 ?_
    obtain rfl := Option.some.inj h
    exact sm_iret d_X10_missingElement_28 rfl rfl rfl rfl
  · replace h := sm_if c1 h
    refine sm_aload_n (q := 11) d_X10_missingElement_10 rfl rfl ?_
    refine sm_getr (q := 14) d_X10_missingElement_11 rfl fl_X10_15 (hx sx_52) rfl ?_
    refine sm_iload_n (q := 15) d_X10_missingElement_14 rfl rfl ?_
    obtain ⟨g2, h⟩ := sm_gt h
    refine sm_iaload (q := 16) d_X10_missingElement_15 rfl (hx sx_54) (sm_ib_of g2) ?_
    refine sm_if_ne (q := 19) (t := 21) d_X10_missingElement_16 rfl rfl (fun c3 => ?_) (fun c3 => ?_)
    · replace h := sm_if c3 h
      refine sm_iinc (q := 24) (v := (x1 + 1)) (lt := [some (.ref 52), some (.int (x1 + 1))]) d_X10_missingElement_21 rfl rfl (ii_1 _) (Nat.le_of_ble_eq_true rfl) rfl rfl ?_
      refine sm_goto (t := 2) d_X10_missingElement_24 rfl ?_
      exact hkb2 (x1 + 1) M _ h
    · replace h := sm_it c3 h
      refine sm_iload_n (q := 20) d_X10_missingElement_19 rfl rfl ?_
      obtain rfl := Option.some.inj h
      exact sm_iret d_X10_missingElement_20 rfl rfl rfl rfl
def f_X10_missingElement_2 (F : Nat) (n : Nat) : Int32 → sm_M → Option (Int32) := match n with
 | 0 => fun _ _ => none
 | n + 1 => f_X10_missingElement_2b F (f_X10_missingElement_2 F n)
theorem j_X10_missingElement_2 {sk : List sm_Sh} (hx : sm_ext skX sk) (F : Nat) : ∀ (n : Nat) (x1 : Int32) (M : sm_M) (r : Int32), f_X10_missingElement_2 F n x1 M = some r → sm_J (md_X10_missingElement, 0, sk, .inl (some (.int r)), M) 2 [some (.ref 52), some (.int x1)] [] M := by
  intro n
  induction n with
  | zero => intro x1  M r h; exact nomatch (show (none : Option (Int32)) = some r from h)
  | succ n ih => exact j_X10_missingElement_2b hx F (f_X10_missingElement_2 F n) ih
def f_X10_missingElement (F : Nat) (M : sm_M) : Option (Int32) := f_X10_missingElement_2 F F (0 : Int32) M
set_option maxRecDepth 100000 in
set_option maxHeartbeats 4000000 in
theorem j_X10_missingElement {sk : List sm_Sh} (hx : sm_ext skX sk) (F : Nat) : ∀ (M : sm_M) (r : Int32), f_X10_missingElement F M = some r → sm_J (md_X10_missingElement, 0, sk, .inl (some (.int r)), M) 0 [some (.ref 52), none] [] M := by
  intro   M r h
  unfold f_X10_missingElement at h
  refine sm_iconst (q := 1) d_X10_missingElement_0 rfl ci_0 ?_
  refine sm_istore_n (q := 2) (lt := [some (.ref 52), some (.int (0 : Int32))]) d_X10_missingElement_1 rfl (Nat.le_of_ble_eq_true rfl) rfl rfl ?_
  exact j_X10_missingElement_2 hx F F (0 : Int32) M _ h
theorem c_X10_missingElement {sk : List sm_Sh} (hx : sm_ext skX sk) (F : Nat) (M : sm_M) (r : Int32) (h : f_X10_missingElement F M = some r) : sm_Ct yX10_missingElement md_X10_missingElement 0 sk [.ref 52] M (.inl (some (.int r))) M := sm_enter 1 pn_X10 rfl (Nat.le_of_ble_eq_true rfl) rfl (j_X10_missingElement hx F M r h)
/-! UniversalCycles$Windows.bitsFrom(I)J -/
theorem d_X10_bitsFrom_0 : decode cX10_bitsFrom 0 = .ok (.lconst 0, 1) := by decide +kernel
theorem d_X10_bitsFrom_1 : decode cX10_bitsFrom 1 = .ok (.lstore_n 2, 1) := by decide +kernel
theorem d_X10_bitsFrom_2 : decode cX10_bitsFrom 2 = .ok (.iconst 0, 1) := by decide +kernel
theorem d_X10_bitsFrom_3 : decode cX10_bitsFrom 3 = .ok (.istore 4, 2) := by decide +kernel
theorem d_X10_bitsFrom_5 : decode cX10_bitsFrom 5 = .ok (.iload 4, 2) := by decide +kernel
theorem d_X10_bitsFrom_7 : decode cX10_bitsFrom 7 = .ok (.bipush 50, 2) := by decide +kernel
theorem d_X10_bitsFrom_9 : decode cX10_bitsFrom 9 = .ok (.if_icmp .ge 39, 3) := by decide +kernel
theorem d_X10_bitsFrom_12 : decode cX10_bitsFrom 12 = .ok (.iload_n 1, 1) := by decide +kernel
theorem d_X10_bitsFrom_13 : decode cX10_bitsFrom 13 = .ok (.iload 4, 2) := by decide +kernel
theorem d_X10_bitsFrom_15 : decode cX10_bitsFrom 15 = .ok (.iadd, 1) := by decide +kernel
theorem d_X10_bitsFrom_16 : decode cX10_bitsFrom 16 = .ok (.aload_n 0, 1) := by decide +kernel
theorem d_X10_bitsFrom_17 : decode cX10_bitsFrom 17 = .ok (.getfield 43, 3) := by decide +kernel
theorem d_X10_bitsFrom_20 : decode cX10_bitsFrom 20 = .ok (.if_icmp .ge 28, 3) := by decide +kernel
theorem d_X10_bitsFrom_23 : decode cX10_bitsFrom 23 = .ok (.aload_n 0, 1) := by decide +kernel
theorem d_X10_bitsFrom_24 : decode cX10_bitsFrom 24 = .ok (.getfield 15, 3) := by decide +kernel
theorem d_X10_bitsFrom_27 : decode cX10_bitsFrom 27 = .ok (.iload_n 1, 1) := by decide +kernel
theorem d_X10_bitsFrom_28 : decode cX10_bitsFrom 28 = .ok (.iload 4, 2) := by decide +kernel
theorem d_X10_bitsFrom_30 : decode cX10_bitsFrom 30 = .ok (.iadd, 1) := by decide +kernel
theorem d_X10_bitsFrom_31 : decode cX10_bitsFrom 31 = .ok (.iaload, 1) := by decide +kernel
theorem d_X10_bitsFrom_32 : decode cX10_bitsFrom 32 = .ok (.ifCond .le 10, 3) := by decide +kernel
theorem d_X10_bitsFrom_35 : decode cX10_bitsFrom 35 = .ok (.lload_n 2, 1) := by decide +kernel
theorem d_X10_bitsFrom_36 : decode cX10_bitsFrom 36 = .ok (.lconst 1, 1) := by decide +kernel
theorem d_X10_bitsFrom_37 : decode cX10_bitsFrom 37 = .ok (.iload 4, 2) := by decide +kernel
theorem d_X10_bitsFrom_39 : decode cX10_bitsFrom 39 = .ok (.lshl, 1) := by decide +kernel
theorem d_X10_bitsFrom_40 : decode cX10_bitsFrom 40 = .ok (.lor, 1) := by decide +kernel
theorem d_X10_bitsFrom_41 : decode cX10_bitsFrom 41 = .ok (.lstore_n 2, 1) := by decide +kernel
theorem d_X10_bitsFrom_42 : decode cX10_bitsFrom 42 = .ok (.iinc 4 1, 3) := by decide +kernel
theorem d_X10_bitsFrom_45 : decode cX10_bitsFrom 45 = .ok (.goto (-40), 3) := by decide +kernel
theorem d_X10_bitsFrom_48 : decode cX10_bitsFrom 48 = .ok (.lload_n 2, 1) := by decide +kernel
theorem d_X10_bitsFrom_49 : decode cX10_bitsFrom 49 = .ok (.lreturn, 1) := by decide +kernel
def f_X10_bitsFrom_42 (F : Nat) (kb5 : Int32 → Int64 → Int32 → sm_M → Option (Int64)) (x1 : Int32) (x2 : Int64) (x4 : Int32) (M : sm_M) : Option (Int64) := kb5 x1 x2 (x4 + 1) M
set_option maxRecDepth 100000 in
set_option maxHeartbeats 4000000 in
theorem j_X10_bitsFrom_42 {sk : List sm_Sh} (hx : sm_ext skX sk) (F : Nat) (kb5 : Int32 → Int64 → Int32 → sm_M → Option (Int64)) (hkb5 : ∀ (x1 : Int32) (x2 : Int64) (x4 : Int32) (M : sm_M) (r : Int64), kb5 x1 x2 x4 M = some r → sm_J (md_X10_bitsFrom, 0, sk, .inl (some (.long r)), M) 5 [some (.ref 52), some (.int x1), some (.long x2), none, some (.int x4)] [] M) : ∀ (x1 : Int32) (x2 : Int64) (x4 : Int32) (M : sm_M) (r : Int64), f_X10_bitsFrom_42 F kb5 x1 x2 x4 M = some r → sm_J (md_X10_bitsFrom, 0, sk, .inl (some (.long r)), M) 42 [some (.ref 52), some (.int x1), some (.long x2), none, some (.int x4)] [] M := by
  intro x1 x2 x4  M r h
  unfold f_X10_bitsFrom_42 at h
  refine sm_iinc (q := 45) (v := (x4 + 1)) (lt := [some (.ref 52), some (.int x1), some (.long x2), none, some (.int (x4 + 1))]) d_X10_bitsFrom_42 rfl rfl (ii_1 _) (Nat.le_of_ble_eq_true rfl) rfl rfl ?_
  refine sm_goto (t := 5) d_X10_bitsFrom_45 rfl ?_
  exact hkb5 x1 x2 (x4 + 1) M _ h
def f_X10_bitsFrom_48 (F : Nat) (x2 : Int64) (M : sm_M) : Option (Int64) := some x2
set_option maxRecDepth 100000 in
set_option maxHeartbeats 4000000 in
theorem j_X10_bitsFrom_48 {sk : List sm_Sh} (hx : sm_ext skX sk) (F : Nat) : ∀ (x2 : Int64) (M : sm_M) (r : Int64), f_X10_bitsFrom_48 F x2 M = some r → sm_J (md_X10_bitsFrom, 0, sk, .inl (some (.long r)), M) 48 [none, none, some (.long x2), none, none] [] M := by
  intro x2  M r h
  unfold f_X10_bitsFrom_48 at h
  refine sm_lload_n (q := 49) d_X10_bitsFrom_48 rfl rfl ?_
  obtain rfl := Option.some.inj h
  exact sm_lret d_X10_bitsFrom_49 rfl rfl rfl
def f_X10_bitsFrom_5b (F : Nat) (kb5 : Int32 → Int64 → Int32 → sm_M → Option (Int64)) (x1 : Int32) (x2 : Int64) (x4 : Int32) (M : sm_M) : Option (Int64) := if (50 : Int32) ≤ x4 then (f_X10_bitsFrom_48 F x2 M) else (if (M.1 52 5) ≤ (x1 + x4) then (f_X10_bitsFrom_48 F x2 M) else (sm_g (sm_ib (x1 + x4) 200) (if (M.1 54 (x1 + x4).toNatClampNeg) ≤ 0 then (f_X10_bitsFrom_42 F kb5 x1 x2 x4 M) else (f_X10_bitsFrom_42 F kb5 x1 (x2 ||| ((1 : Int64) <<< (x4.toInt64 &&& 63))) x4 M))))
set_option maxRecDepth 100000 in
set_option maxHeartbeats 4000000 in
theorem j_X10_bitsFrom_5b {sk : List sm_Sh} (hx : sm_ext skX sk) (F : Nat) (kb5 : Int32 → Int64 → Int32 → sm_M → Option (Int64)) (hkb5 : ∀ (x1 : Int32) (x2 : Int64) (x4 : Int32) (M : sm_M) (r : Int64), kb5 x1 x2 x4 M = some r → sm_J (md_X10_bitsFrom, 0, sk, .inl (some (.long r)), M) 5 [some (.ref 52), some (.int x1), some (.long x2), none, some (.int x4)] [] M) : ∀ (x1 : Int32) (x2 : Int64) (x4 : Int32) (M : sm_M) (r : Int64), f_X10_bitsFrom_5b F kb5 x1 x2 x4 M = some r → sm_J (md_X10_bitsFrom, 0, sk, .inl (some (.long r)), M) 5 [some (.ref 52), some (.int x1), some (.long x2), none, some (.int x4)] [] M := by
  intro x1 x2 x4  M r h
  unfold f_X10_bitsFrom_5b at h
  refine sm_iload (q := 7) d_X10_bitsFrom_5 rfl rfl ?_
  refine sm_bipush (q := 9) d_X10_bitsFrom_7 rfl cb_50 ?_
  refine sm_icmp_ge (q := 12) (t := 48) d_X10_bitsFrom_9 rfl rfl (fun c1 => ?_) (fun c1 => ?_)
  · replace h := sm_it c1 h
    refine sm_fg [0, 1, 4] ?_
    exact j_X10_bitsFrom_48 hx F x2 M _ h
  · replace h := sm_if c1 h
    refine sm_iload_n (q := 13) d_X10_bitsFrom_12 rfl rfl ?_
    refine sm_iload (q := 15) d_X10_bitsFrom_13 rfl rfl ?_
    refine sm_iadd (q := 16) d_X10_bitsFrom_15 rfl ?_
    refine sm_aload_n (q := 17) d_X10_bitsFrom_16 rfl rfl ?_
    refine sm_geti (q := 20) d_X10_bitsFrom_17 rfl fl_X10_43 (hx sx_52) rfl ?_
    refine sm_icmp_ge (q := 23) (t := 48) d_X10_bitsFrom_20 rfl rfl (fun c2 => ?_) (fun c2 => ?_)
    · replace h := sm_it c2 h
      refine sm_fg [0, 1, 4] ?_
      exact j_X10_bitsFrom_48 hx F x2 M _ h
    · replace h := sm_if c2 h
      refine sm_aload_n (q := 24) d_X10_bitsFrom_23 rfl rfl ?_
      refine sm_getr (q := 27) d_X10_bitsFrom_24 rfl fl_X10_15 (hx sx_52) rfl ?_
      refine sm_iload_n (q := 28) d_X10_bitsFrom_27 rfl rfl ?_
      refine sm_iload (q := 30) d_X10_bitsFrom_28 rfl rfl ?_
      refine sm_iadd (q := 31) d_X10_bitsFrom_30 rfl ?_
      obtain ⟨g3, h⟩ := sm_gt h
      refine sm_iaload (q := 32) d_X10_bitsFrom_31 rfl (hx sx_54) (sm_ib_of g3) ?_
      refine sm_if_le (q := 35) (t := 42) d_X10_bitsFrom_32 rfl rfl (fun c4 => ?_) (fun c4 => ?_)
      · replace h := sm_it c4 h
        exact j_X10_bitsFrom_42 hx F kb5 hkb5 x1 x2 x4 M _ h
      · replace h := sm_if c4 h
        refine sm_lload_n (q := 36) d_X10_bitsFrom_35 rfl rfl ?_
        refine sm_lconst (q := 37) d_X10_bitsFrom_36 rfl cl_1 ?_
        refine sm_iload (q := 39) d_X10_bitsFrom_37 rfl rfl ?_
        refine sm_lshl (q := 40) d_X10_bitsFrom_39 rfl ?_
        refine sm_lor (q := 41) d_X10_bitsFrom_40 rfl ?_
        refine sm_lstore_n (q := 42) (lt := [some (.ref 52), some (.int x1), some (.long (x2 ||| ((1 : Int64) <<< (x4.toInt64 &&& 63)))), none, some (.int x4)]) d_X10_bitsFrom_41 rfl (Nat.le_of_ble_eq_true rfl) rfl rfl ?_
        exact j_X10_bitsFrom_42 hx F kb5 hkb5 x1 (x2 ||| ((1 : Int64) <<< (x4.toInt64 &&& 63))) x4 M _ h
def f_X10_bitsFrom_5 (F : Nat) (n : Nat) : Int32 → Int64 → Int32 → sm_M → Option (Int64) := match n with
 | 0 => fun _ _ _ _ => none
 | n + 1 => f_X10_bitsFrom_5b F (f_X10_bitsFrom_5 F n)
theorem j_X10_bitsFrom_5 {sk : List sm_Sh} (hx : sm_ext skX sk) (F : Nat) : ∀ (n : Nat) (x1 : Int32) (x2 : Int64) (x4 : Int32) (M : sm_M) (r : Int64), f_X10_bitsFrom_5 F n x1 x2 x4 M = some r → sm_J (md_X10_bitsFrom, 0, sk, .inl (some (.long r)), M) 5 [some (.ref 52), some (.int x1), some (.long x2), none, some (.int x4)] [] M := by
  intro n
  induction n with
  | zero => intro x1 x2 x4  M r h; exact nomatch (show (none : Option (Int64)) = some r from h)
  | succ n ih => exact j_X10_bitsFrom_5b hx F (f_X10_bitsFrom_5 F n) ih
def f_X10_bitsFrom (F : Nat) (x1 : Int32) (M : sm_M) : Option (Int64) := f_X10_bitsFrom_5 F F x1 (0 : Int64) (0 : Int32) M
set_option maxRecDepth 100000 in
set_option maxHeartbeats 4000000 in
theorem j_X10_bitsFrom {sk : List sm_Sh} (hx : sm_ext skX sk) (F : Nat) : ∀ (x1 : Int32) (M : sm_M) (r : Int64), f_X10_bitsFrom F x1 M = some r → sm_J (md_X10_bitsFrom, 0, sk, .inl (some (.long r)), M) 0 [some (.ref 52), some (.int x1), none, none, none] [] M := by
  intro x1  M r h
  unfold f_X10_bitsFrom at h
  refine sm_lconst (q := 1) d_X10_bitsFrom_0 rfl cl_0 ?_
  refine sm_lstore_n (q := 2) (lt := [some (.ref 52), some (.int x1), some (.long (0 : Int64)), none, none]) d_X10_bitsFrom_1 rfl (Nat.le_of_ble_eq_true rfl) rfl rfl ?_
  refine sm_iconst (q := 3) d_X10_bitsFrom_2 rfl ci_0 ?_
  refine sm_istore (q := 5) (lt := [some (.ref 52), some (.int x1), some (.long (0 : Int64)), none, some (.int (0 : Int32))]) d_X10_bitsFrom_3 rfl (Nat.le_of_ble_eq_true rfl) rfl rfl ?_
  exact j_X10_bitsFrom_5 hx F F x1 (0 : Int64) (0 : Int32) M _ h
theorem c_X10_bitsFrom {sk : List sm_Sh} (hx : sm_ext skX sk) (F : Nat) (x1 : Int32) (M : sm_M) (r : Int64) (h : f_X10_bitsFrom F x1 M = some r) : sm_Ct yX10_bitsFrom md_X10_bitsFrom 0 sk [.ref 52, .int x1] M (.inl (some (.long r))) M := sm_enter 3 pn_X10 rfl (Nat.le_of_ble_eq_true rfl) rfl (j_X10_bitsFrom hx F x1 M r h)
/-! UniversalCycles$Windows.lengthenRun(II)I -/
theorem d_X10_lengthenRun_0 : decode cX10_lengthenRun 0 = .ok (.iload_n 2, 1) := by decide +kernel
theorem d_X10_lengthenRun_1 : decode cX10_lengthenRun 1 = .ok (.istore_n 3, 1) := by decide +kernel
theorem d_X10_lengthenRun_2 : decode cX10_lengthenRun 2 = .ok (.iload_n 3, 1) := by decide +kernel
theorem d_X10_lengthenRun_3 : decode cX10_lengthenRun 3 = .ok (.aload_n 0, 1) := by decide +kernel
theorem d_X10_lengthenRun_4 : decode cX10_lengthenRun 4 = .ok (.getfield 31, 3) := by decide +kernel
theorem d_X10_lengthenRun_7 : decode cX10_lengthenRun 7 = .ok (.if_icmp .ge 68, 3) := by decide +kernel
theorem d_X10_lengthenRun_10 : decode cX10_lengthenRun 10 = .ok (.iload_n 1, 1) := by decide +kernel
theorem d_X10_lengthenRun_11 : decode cX10_lengthenRun 11 = .ok (.iload_n 3, 1) := by decide +kernel
theorem d_X10_lengthenRun_12 : decode cX10_lengthenRun 12 = .ok (.iadd, 1) := by decide +kernel
theorem d_X10_lengthenRun_13 : decode cX10_lengthenRun 13 = .ok (.istore 4, 2) := by decide +kernel
theorem d_X10_lengthenRun_15 : decode cX10_lengthenRun 15 = .ok (.aload_n 0, 1) := by decide +kernel
theorem d_X10_lengthenRun_16 : decode cX10_lengthenRun 16 = .ok (.getfield 9, 3) := by decide +kernel
theorem d_X10_lengthenRun_19 : decode cX10_lengthenRun 19 = .ok (.iload 4, 2) := by decide +kernel
theorem d_X10_lengthenRun_21 : decode cX10_lengthenRun 21 = .ok (.aload_n 0, 1) := by decide +kernel
theorem d_X10_lengthenRun_22 : decode cX10_lengthenRun 22 = .ok (.getfield 31, 3) := by decide +kernel
theorem d_X10_lengthenRun_25 : decode cX10_lengthenRun 25 = .ok (.if_icmp .ge 8, 3) := by decide +kernel
theorem d_X10_lengthenRun_28 : decode cX10_lengthenRun 28 = .ok (.iload 4, 2) := by decide +kernel
theorem d_X10_lengthenRun_30 : decode cX10_lengthenRun 30 = .ok (.goto 10, 3) := by decide +kernel
theorem d_X10_lengthenRun_33 : decode cX10_lengthenRun 33 = .ok (.iload 4, 2) := by decide +kernel
theorem d_X10_lengthenRun_35 : decode cX10_lengthenRun 35 = .ok (.aload_n 0, 1) := by decide +kernel
theorem d_X10_lengthenRun_36 : decode cX10_lengthenRun 36 = .ok (.getfield 31, 3) := by decide +kernel
theorem d_X10_lengthenRun_39 : decode cX10_lengthenRun 39 = .ok (.isub, 1) := by decide +kernel
theorem d_X10_lengthenRun_40 : decode cX10_lengthenRun 40 = .ok (.iaload, 1) := by decide +kernel
theorem d_X10_lengthenRun_41 : decode cX10_lengthenRun 41 = .ok (.istore 5, 2) := by decide +kernel
theorem d_X10_lengthenRun_43 : decode cX10_lengthenRun 43 = .ok (.iload 5, 2) := by decide +kernel
theorem d_X10_lengthenRun_45 : decode cX10_lengthenRun 45 = .ok (.iconst (-1), 1) := by decide +kernel
theorem d_X10_lengthenRun_46 : decode cX10_lengthenRun 46 = .ok (.if_icmp .eq 13, 3) := by decide +kernel
theorem d_X10_lengthenRun_49 : decode cX10_lengthenRun 49 = .ok (.aload_n 0, 1) := by decide +kernel
theorem d_X10_lengthenRun_50 : decode cX10_lengthenRun 50 = .ok (.getfield 21, 3) := by decide +kernel
theorem d_X10_lengthenRun_53 : decode cX10_lengthenRun 53 = .ok (.iload 5, 2) := by decide +kernel
theorem d_X10_lengthenRun_55 : decode cX10_lengthenRun 55 = .ok (.baload, 1) := by decide +kernel
theorem d_X10_lengthenRun_56 : decode cX10_lengthenRun 56 = .ok (.ifCond .eq 5, 3) := by decide +kernel
theorem d_X10_lengthenRun_59 : decode cX10_lengthenRun 59 = .ok (.iload_n 3, 1) := by decide +kernel
theorem d_X10_lengthenRun_60 : decode cX10_lengthenRun 60 = .ok (.ireturn, 1) := by decide +kernel
theorem d_X10_lengthenRun_61 : decode cX10_lengthenRun 61 = .ok (.aload_n 0, 1) := by decide +kernel
theorem d_X10_lengthenRun_62 : decode cX10_lengthenRun 62 = .ok (.getfield 21, 3) := by decide +kernel
theorem d_X10_lengthenRun_65 : decode cX10_lengthenRun 65 = .ok (.iload 5, 2) := by decide +kernel
theorem d_X10_lengthenRun_67 : decode cX10_lengthenRun 67 = .ok (.iconst 1, 1) := by decide +kernel
theorem d_X10_lengthenRun_68 : decode cX10_lengthenRun 68 = .ok (.bastore, 1) := by decide +kernel
theorem d_X10_lengthenRun_69 : decode cX10_lengthenRun 69 = .ok (.iinc 3 1, 3) := by decide +kernel
theorem d_X10_lengthenRun_72 : decode cX10_lengthenRun 72 = .ok (.goto (-70), 3) := by decide +kernel
theorem d_X10_lengthenRun_75 : decode cX10_lengthenRun 75 = .ok (.aload_n 0, 1) := by decide +kernel
theorem d_X10_lengthenRun_76 : decode cX10_lengthenRun 76 = .ok (.getfield 31, 3) := by decide +kernel
theorem d_X10_lengthenRun_79 : decode cX10_lengthenRun 79 = .ok (.ireturn, 1) := by decide +kernel
def f_X10_lengthenRun_59 (F : Nat) (x3 : Int32) (M : sm_M) : Option (Int32 × sm_M) := some (x3, M)
set_option maxRecDepth 100000 in
set_option maxHeartbeats 4000000 in
theorem j_X10_lengthenRun_59 {sk : List sm_Sh} (hx : sm_ext skX sk) (F : Nat) : ∀ (x3 : Int32) (M : sm_M) (r : Int32 × sm_M), f_X10_lengthenRun_59 F x3 M = some r → sm_J (md_X10_lengthenRun, 0, sk, .inl (some (.int r.1)), r.2) 59 [none, none, none, some (.int x3), none, none] [] M := by
  intro x3  M r h
  unfold f_X10_lengthenRun_59 at h
  refine sm_iload_n (q := 60) d_X10_lengthenRun_59 rfl rfl ?_
  obtain rfl := Option.some.inj h
  exact sm_iret d_X10_lengthenRun_60 rfl rfl rfl rfl
def f_X10_lengthenRun_40 (F : Nat) (kb2 : Int32 → Int32 → sm_M → Option (Int32 × sm_M)) (x1 : Int32) (x3 : Int32) (y1 : Int32) (M : sm_M) : Option (Int32 × sm_M) := sm_g (sm_ib y1 240) (if (M.1 53 y1.toNatClampNeg) = (-1 : Int32) then (f_X10_lengthenRun_59 F x3 M) else (sm_g (sm_ib (M.1 53 y1.toNatClampNeg) 200) (if (M.1 56 (M.1 53 y1.toNatClampNeg).toNatClampNeg) = 0 then (sm_g (sm_ib (M.1 53 y1.toNatClampNeg) 200) (kb2 x1 (x3 + 1) ((sm_mi M 56 (M.1 53 y1.toNatClampNeg).toNatClampNeg (vp_nar .boolean (1 : Int32)))))) else (f_X10_lengthenRun_59 F x3 M))))
set_option maxRecDepth 100000 in
set_option maxHeartbeats 4000000 in
theorem j_X10_lengthenRun_40 {sk : List sm_Sh} (hx : sm_ext skX sk) (F : Nat) (kb2 : Int32 → Int32 → sm_M → Option (Int32 × sm_M)) (hkb2 : ∀ (x1 : Int32) (x3 : Int32) (M : sm_M) (r : Int32 × sm_M), kb2 x1 x3 M = some r → sm_J (md_X10_lengthenRun, 0, sk, .inl (some (.int r.1)), r.2) 2 [some (.ref 52), some (.int x1), none, some (.int x3), none, none] [] M) : ∀ (x1 : Int32) (x3 : Int32) (y1 : Int32) (M : sm_M) (r : Int32 × sm_M), f_X10_lengthenRun_40 F kb2 x1 x3 y1 M = some r → sm_J (md_X10_lengthenRun, 0, sk, .inl (some (.int r.1)), r.2) 40 [some (.ref 52), some (.int x1), none, some (.int x3), none, none] [.int y1, .ref 53] M := by
  intro x1 x3 y1  M r h
  unfold f_X10_lengthenRun_40 at h
  obtain ⟨g1, h⟩ := sm_gt h
  refine sm_iaload (q := 41) d_X10_lengthenRun_40 rfl (hx sx_53) (sm_ib_of g1) ?_
  refine sm_istore (q := 43) (lt := [some (.ref 52), some (.int x1), none, some (.int x3), none, some (.int (M.1 53 y1.toNatClampNeg))]) d_X10_lengthenRun_41 rfl (Nat.le_of_ble_eq_true rfl) rfl rfl ?_
  refine sm_iload (q := 45) d_X10_lengthenRun_43 rfl rfl ?_
  refine sm_iconst (q := 46) d_X10_lengthenRun_45 rfl ci_m1 ?_
  refine sm_icmp_eq (q := 49) (t := 59) d_X10_lengthenRun_46 rfl rfl (fun c2 => ?_) (fun c2 => ?_)
  · replace h := sm_it c2 h
    refine sm_fg [0, 1, 5] ?_
    exact j_X10_lengthenRun_59 hx F x3 M _ h
  · replace h := sm_if c2 h
    refine sm_aload_n (q := 50) d_X10_lengthenRun_49 rfl rfl ?_
    refine sm_getr (q := 53) d_X10_lengthenRun_50 rfl fl_X10_21 (hx sx_52) rfl ?_
    refine sm_iload (q := 55) d_X10_lengthenRun_53 rfl rfl ?_
    obtain ⟨g3, h⟩ := sm_gt h
    refine sm_baload (q := 56) d_X10_lengthenRun_55 rfl (hx sx_56) (sm_ib_of g3) ?_
    refine sm_if_eq (q := 59) (t := 61) d_X10_lengthenRun_56 rfl rfl (fun c4 => ?_) (fun c4 => ?_)
    · replace h := sm_it c4 h
      refine sm_aload_n (q := 62) d_X10_lengthenRun_61 rfl rfl ?_
      refine sm_getr (q := 65) d_X10_lengthenRun_62 rfl fl_X10_21 (hx sx_52) rfl ?_
      refine sm_iload (q := 67) d_X10_lengthenRun_65 rfl rfl ?_
      refine sm_iconst (q := 68) d_X10_lengthenRun_67 rfl ci_1 ?_
      obtain ⟨g5, h⟩ := sm_gt h
      refine sm_bastore (q := 69) d_X10_lengthenRun_68 rfl (hx sx_56) (sm_ib_of g5) ?_
      refine sm_iinc (q := 72) (v := (x3 + 1)) (lt := [some (.ref 52), some (.int x1), none, some (.int (x3 + 1)), none, some (.int (M.1 53 y1.toNatClampNeg))]) d_X10_lengthenRun_69 rfl rfl (ii_1 _) (Nat.le_of_ble_eq_true rfl) rfl rfl ?_
      refine sm_goto (t := 2) d_X10_lengthenRun_72 rfl ?_
      refine sm_fg [5] ?_
      exact hkb2 x1 (x3 + 1) ((sm_mi M 56 (M.1 53 y1.toNatClampNeg).toNatClampNeg (vp_nar .boolean (1 : Int32)))) _ h
    · replace h := sm_if c4 h
      refine sm_fg [0, 1, 5] ?_
      exact j_X10_lengthenRun_59 hx F x3 M _ h
def f_X10_lengthenRun_2b (F : Nat) (kb2 : Int32 → Int32 → sm_M → Option (Int32 × sm_M)) (x1 : Int32) (x3 : Int32) (M : sm_M) : Option (Int32 × sm_M) := if (M.1 52 4) ≤ x3 then (some ((M.1 52 4), M)) else (if (M.1 52 4) ≤ (x1 + x3) then (f_X10_lengthenRun_40 F kb2 x1 x3 ((x1 + x3) - (M.1 52 4)) M) else (f_X10_lengthenRun_40 F kb2 x1 x3 (x1 + x3) M))
set_option maxRecDepth 100000 in
set_option maxHeartbeats 4000000 in
theorem j_X10_lengthenRun_2b {sk : List sm_Sh} (hx : sm_ext skX sk) (F : Nat) (kb2 : Int32 → Int32 → sm_M → Option (Int32 × sm_M)) (hkb2 : ∀ (x1 : Int32) (x3 : Int32) (M : sm_M) (r : Int32 × sm_M), kb2 x1 x3 M = some r → sm_J (md_X10_lengthenRun, 0, sk, .inl (some (.int r.1)), r.2) 2 [some (.ref 52), some (.int x1), none, some (.int x3), none, none] [] M) : ∀ (x1 : Int32) (x3 : Int32) (M : sm_M) (r : Int32 × sm_M), f_X10_lengthenRun_2b F kb2 x1 x3 M = some r → sm_J (md_X10_lengthenRun, 0, sk, .inl (some (.int r.1)), r.2) 2 [some (.ref 52), some (.int x1), none, some (.int x3), none, none] [] M := by
  intro x1 x3  M r h
  unfold f_X10_lengthenRun_2b at h
  refine sm_iload_n (q := 3) d_X10_lengthenRun_2 rfl rfl ?_
  refine sm_aload_n (q := 4) d_X10_lengthenRun_3 rfl rfl ?_
  refine sm_geti (q := 7) d_X10_lengthenRun_4 rfl fl_X10_31 (hx sx_52) rfl ?_
  refine sm_icmp_ge (q := 10) (t := 75) d_X10_lengthenRun_7 rfl rfl (fun c1 => ?_) (fun c1 => ?_)
  · replace h := sm_it c1 h
    refine sm_aload_n (q := 76) d_X10_lengthenRun_75 rfl rfl ?_
    refine sm_geti (q := 79) d_X10_lengthenRun_76 rfl fl_X10_31 (hx sx_52) rfl ?_
    obtain rfl := Option.some.inj h
    exact sm_iret d_X10_lengthenRun_79 rfl rfl rfl rfl
  · replace h := sm_if c1 h
    refine sm_iload_n (q := 11) d_X10_lengthenRun_10 rfl rfl ?_
    refine sm_iload_n (q := 12) d_X10_lengthenRun_11 rfl rfl ?_
    refine sm_iadd (q := 13) d_X10_lengthenRun_12 rfl ?_
    refine sm_istore (q := 15) (lt := [some (.ref 52), some (.int x1), none, some (.int x3), some (.int (x1 + x3)), none]) d_X10_lengthenRun_13 rfl (Nat.le_of_ble_eq_true rfl) rfl rfl ?_
    refine sm_aload_n (q := 16) d_X10_lengthenRun_15 rfl rfl ?_
    refine sm_getr (q := 19) d_X10_lengthenRun_16 rfl fl_X10_9 (hx sx_52) rfl ?_
    refine sm_iload (q := 21) d_X10_lengthenRun_19 rfl rfl ?_
    refine sm_aload_n (q := 22) d_X10_lengthenRun_21 rfl rfl ?_
    refine sm_geti (q := 25) d_X10_lengthenRun_22 rfl fl_X10_31 (hx sx_52) rfl ?_
    refine sm_icmp_ge (q := 28) (t := 33) d_X10_lengthenRun_25 rfl rfl (fun c2 => ?_) (fun c2 => ?_)
    · replace h := sm_it c2 h
      refine sm_iload (q := 35) d_X10_lengthenRun_33 rfl rfl ?_
      refine sm_aload_n (q := 36) d_X10_lengthenRun_35 rfl rfl ?_
      refine sm_geti (q := 39) d_X10_lengthenRun_36 rfl fl_X10_31 (hx sx_52) rfl ?_
      refine sm_isub (q := 40) d_X10_lengthenRun_39 rfl ?_
      refine sm_fg [4] ?_
      exact j_X10_lengthenRun_40 hx F kb2 hkb2 x1 x3 ((x1 + x3) - (M.1 52 4)) M _ h
    · replace h := sm_if c2 h
      refine sm_iload (q := 30) d_X10_lengthenRun_28 rfl rfl ?_
      refine sm_goto (t := 40) d_X10_lengthenRun_30 rfl ?_
      refine sm_fg [4] ?_
      exact j_X10_lengthenRun_40 hx F kb2 hkb2 x1 x3 (x1 + x3) M _ h
def f_X10_lengthenRun_2 (F : Nat) (n : Nat) : Int32 → Int32 → sm_M → Option (Int32 × sm_M) := match n with
 | 0 => fun _ _ _ => none
 | n + 1 => f_X10_lengthenRun_2b F (f_X10_lengthenRun_2 F n)
theorem j_X10_lengthenRun_2 {sk : List sm_Sh} (hx : sm_ext skX sk) (F : Nat) : ∀ (n : Nat) (x1 : Int32) (x3 : Int32) (M : sm_M) (r : Int32 × sm_M), f_X10_lengthenRun_2 F n x1 x3 M = some r → sm_J (md_X10_lengthenRun, 0, sk, .inl (some (.int r.1)), r.2) 2 [some (.ref 52), some (.int x1), none, some (.int x3), none, none] [] M := by
  intro n
  induction n with
  | zero => intro x1 x3  M r h; exact nomatch (show (none : Option (Int32 × sm_M)) = some r from h)
  | succ n ih => exact j_X10_lengthenRun_2b hx F (f_X10_lengthenRun_2 F n) ih
def f_X10_lengthenRun (F : Nat) (x1 : Int32) (x2 : Int32) (M : sm_M) : Option (Int32 × sm_M) := f_X10_lengthenRun_2 F F x1 x2 M
set_option maxRecDepth 100000 in
set_option maxHeartbeats 4000000 in
theorem j_X10_lengthenRun {sk : List sm_Sh} (hx : sm_ext skX sk) (F : Nat) : ∀ (x1 : Int32) (x2 : Int32) (M : sm_M) (r : Int32 × sm_M), f_X10_lengthenRun F x1 x2 M = some r → sm_J (md_X10_lengthenRun, 0, sk, .inl (some (.int r.1)), r.2) 0 [some (.ref 52), some (.int x1), some (.int x2), none, none, none] [] M := by
  intro x1 x2  M r h
  unfold f_X10_lengthenRun at h
  refine sm_iload_n (q := 1) d_X10_lengthenRun_0 rfl rfl ?_
  refine sm_istore_n (q := 2) (lt := [some (.ref 52), some (.int x1), some (.int x2), some (.int x2), none, none]) d_X10_lengthenRun_1 rfl (Nat.le_of_ble_eq_true rfl) rfl rfl ?_
  refine sm_fg [2] ?_
  exact j_X10_lengthenRun_2 hx F F x1 x2 M _ h
theorem c_X10_lengthenRun {sk : List sm_Sh} (hx : sm_ext skX sk) (F : Nat) (x1 : Int32) (x2 : Int32) (M : sm_M) (r : Int32 × sm_M) (h : f_X10_lengthenRun F x1 x2 M = some r) : sm_Ct yX10_lengthenRun md_X10_lengthenRun 0 sk [.ref 52, .int x1, .int x2] M (.inl (some (.int r.1))) r.2 := sm_enter 3 pn_X10 rfl (Nat.le_of_ble_eq_true rfl) rfl (j_X10_lengthenRun hx F x1 x2 M r h)
/-! UniversalCycles$Windows.findRun()V -/
theorem d_X10_findRun_0 : decode cX10_findRun 0 = .ok (.iconst 0, 1) := by decide +kernel
theorem d_X10_findRun_1 : decode cX10_findRun 1 = .ok (.istore_n 1, 1) := by decide +kernel
theorem d_X10_findRun_2 : decode cX10_findRun 2 = .ok (.iload_n 1, 1) := by decide +kernel
theorem d_X10_findRun_3 : decode cX10_findRun 3 = .ok (.aload_n 0, 1) := by decide +kernel
theorem d_X10_findRun_4 : decode cX10_findRun 4 = .ok (.getfield 43, 3) := by decide +kernel
theorem d_X10_findRun_7 : decode cX10_findRun 7 = .ok (.if_icmp .ge 16, 3) := by decide +kernel
theorem d_X10_findRun_10 : decode cX10_findRun 10 = .ok (.aload_n 0, 1) := by decide +kernel
theorem d_X10_findRun_11 : decode cX10_findRun 11 = .ok (.getfield 21, 3) := by decide +kernel
theorem d_X10_findRun_14 : decode cX10_findRun 14 = .ok (.iload_n 1, 1) := by decide +kernel
theorem d_X10_findRun_15 : decode cX10_findRun 15 = .ok (.iconst 0, 1) := by decide +kernel
theorem d_X10_findRun_16 : decode cX10_findRun 16 = .ok (.bastore, 1) := by decide +kernel
theorem d_X10_findRun_17 : decode cX10_findRun 17 = .ok (.iinc 1 1, 3) := by decide +kernel
theorem d_X10_findRun_20 : decode cX10_findRun 20 = .ok (.goto (-18), 3) := by decide +kernel
theorem d_X10_findRun_23 : decode cX10_findRun 23 = .ok (.aload_n 0, 1) := by decide +kernel
theorem d_X10_findRun_24 : decode cX10_findRun 24 = .ok (.iconst 0, 1) := by decide +kernel
theorem d_X10_findRun_25 : decode cX10_findRun 25 = .ok (.putfield 55, 3) := by decide +kernel
theorem d_X10_findRun_28 : decode cX10_findRun 28 = .ok (.aload_n 0, 1) := by decide +kernel
theorem d_X10_findRun_29 : decode cX10_findRun 29 = .ok (.iconst 0, 1) := by decide +kernel
theorem d_X10_findRun_30 : decode cX10_findRun 30 = .ok (.putfield 58, 3) := by decide +kernel
theorem d_X10_findRun_33 : decode cX10_findRun 33 = .ok (.iconst 0, 1) := by decide +kernel
theorem d_X10_findRun_34 : decode cX10_findRun 34 = .ok (.istore_n 1, 1) := by decide +kernel
theorem d_X10_findRun_35 : decode cX10_findRun 35 = .ok (.iconst 0, 1) := by decide +kernel
theorem d_X10_findRun_36 : decode cX10_findRun 36 = .ok (.istore_n 2, 1) := by decide +kernel
theorem d_X10_findRun_37 : decode cX10_findRun 37 = .ok (.iload_n 2, 1) := by decide +kernel
theorem d_X10_findRun_38 : decode cX10_findRun 38 = .ok (.aload_n 0, 1) := by decide +kernel
theorem d_X10_findRun_39 : decode cX10_findRun 39 = .ok (.getfield 31, 3) := by decide +kernel
theorem d_X10_findRun_42 : decode cX10_findRun 42 = .ok (.if_icmp .ge 53, 3) := by decide +kernel
theorem d_X10_findRun_45 : decode cX10_findRun 45 = .ok (.aload_n 0, 1) := by decide +kernel
theorem d_X10_findRun_46 : decode cX10_findRun 46 = .ok (.iload_n 2, 1) := by decide +kernel
theorem d_X10_findRun_47 : decode cX10_findRun 47 = .ok (.iload_n 1, 1) := by decide +kernel
theorem d_X10_findRun_48 : decode cX10_findRun 48 = .ok (.invokevirtual 61, 3) := by decide +kernel
theorem d_X10_findRun_51 : decode cX10_findRun 51 = .ok (.istore_n 1, 1) := by decide +kernel
theorem d_X10_findRun_52 : decode cX10_findRun 52 = .ok (.iload_n 1, 1) := by decide +kernel
theorem d_X10_findRun_53 : decode cX10_findRun 53 = .ok (.aload_n 0, 1) := by decide +kernel
theorem d_X10_findRun_54 : decode cX10_findRun 54 = .ok (.getfield 55, 3) := by decide +kernel
theorem d_X10_findRun_57 : decode cX10_findRun 57 = .ok (.if_icmp .le 13, 3) := by decide +kernel
theorem d_X10_findRun_60 : decode cX10_findRun 60 = .ok (.aload_n 0, 1) := by decide +kernel
theorem d_X10_findRun_61 : decode cX10_findRun 61 = .ok (.iload_n 1, 1) := by decide +kernel
theorem d_X10_findRun_62 : decode cX10_findRun 62 = .ok (.putfield 55, 3) := by decide +kernel
theorem d_X10_findRun_65 : decode cX10_findRun 65 = .ok (.aload_n 0, 1) := by decide +kernel
theorem d_X10_findRun_66 : decode cX10_findRun 66 = .ok (.iload_n 2, 1) := by decide +kernel
theorem d_X10_findRun_67 : decode cX10_findRun 67 = .ok (.putfield 58, 3) := by decide +kernel
theorem d_X10_findRun_70 : decode cX10_findRun 70 = .ok (.iload_n 1, 1) := by decide +kernel
theorem d_X10_findRun_71 : decode cX10_findRun 71 = .ok (.ifCond .le 18, 3) := by decide +kernel
theorem d_X10_findRun_74 : decode cX10_findRun 74 = .ok (.aload_n 0, 1) := by decide +kernel
theorem d_X10_findRun_75 : decode cX10_findRun 75 = .ok (.getfield 21, 3) := by decide +kernel
theorem d_X10_findRun_78 : decode cX10_findRun 78 = .ok (.aload_n 0, 1) := by decide +kernel
theorem d_X10_findRun_79 : decode cX10_findRun 79 = .ok (.getfield 9, 3) := by decide +kernel
theorem d_X10_findRun_82 : decode cX10_findRun 82 = .ok (.iload_n 2, 1) := by decide +kernel
theorem d_X10_findRun_83 : decode cX10_findRun 83 = .ok (.iaload, 1) := by decide +kernel
theorem d_X10_findRun_84 : decode cX10_findRun 84 = .ok (.iconst 0, 1) := by decide +kernel
theorem d_X10_findRun_85 : decode cX10_findRun 85 = .ok (.bastore, 1) := by decide +kernel
theorem d_X10_findRun_86 : decode cX10_findRun 86 = .ok (.iinc 1 (-1), 3) := by decide +kernel
theorem d_X10_findRun_89 : decode cX10_findRun 89 = .ok (.iinc 2 1, 3) := by decide +kernel
theorem d_X10_findRun_92 : decode cX10_findRun 92 = .ok (.goto (-55), 3) := by decide +kernel
theorem d_X10_findRun_95 : decode cX10_findRun 95 = .ok (.return_, 1) := by decide +kernel
def f_X10_findRun_89 (F : Nat) (kb37 : Int32 → Int32 → sm_M → Option (sm_M)) (x1 : Int32) (x2 : Int32) (M : sm_M) : Option (sm_M) := kb37 x1 (x2 + 1) M
set_option maxRecDepth 100000 in
set_option maxHeartbeats 4000000 in
theorem j_X10_findRun_89 {sk : List sm_Sh} (hx : sm_ext skX sk) (F : Nat) (kb37 : Int32 → Int32 → sm_M → Option (sm_M)) (hkb37 : ∀ (x1 : Int32) (x2 : Int32) (M : sm_M) (r : sm_M), kb37 x1 x2 M = some r → sm_J (md_X10_findRun, 1, sk, .inl none, r) 37 [some (.ref 52), some (.int x1), some (.int x2)] [] M) : ∀ (x1 : Int32) (x2 : Int32) (M : sm_M) (r : sm_M), f_X10_findRun_89 F kb37 x1 x2 M = some r → sm_J (md_X10_findRun, 1, sk, .inl none, r) 89 [some (.ref 52), some (.int x1), some (.int x2)] [] M := by
  intro x1 x2  M r h
  unfold f_X10_findRun_89 at h
  refine sm_iinc (q := 92) (v := (x2 + 1)) (lt := [some (.ref 52), some (.int x1), some (.int (x2 + 1))]) d_X10_findRun_89 rfl rfl (ii_1 _) (Nat.le_of_ble_eq_true rfl) rfl rfl ?_
  refine sm_goto (t := 37) d_X10_findRun_92 rfl ?_
  exact hkb37 x1 (x2 + 1) M _ h
def f_X10_findRun_70 (F : Nat) (kb37 : Int32 → Int32 → sm_M → Option (sm_M)) (x1 : Int32) (x2 : Int32) (M : sm_M) : Option (sm_M) := if x1 ≤ 0 then (f_X10_findRun_89 F kb37 x1 x2 M) else (sm_g (sm_ib x2 240) (sm_g (sm_ib (M.1 53 x2.toNatClampNeg) 200) (f_X10_findRun_89 F kb37 (x1 + (-1)) x2 ((sm_mi M 56 (M.1 53 x2.toNatClampNeg).toNatClampNeg (vp_nar .boolean (0 : Int32)))))))
set_option maxRecDepth 100000 in
set_option maxHeartbeats 4000000 in
theorem j_X10_findRun_70 {sk : List sm_Sh} (hx : sm_ext skX sk) (F : Nat) (kb37 : Int32 → Int32 → sm_M → Option (sm_M)) (hkb37 : ∀ (x1 : Int32) (x2 : Int32) (M : sm_M) (r : sm_M), kb37 x1 x2 M = some r → sm_J (md_X10_findRun, 1, sk, .inl none, r) 37 [some (.ref 52), some (.int x1), some (.int x2)] [] M) : ∀ (x1 : Int32) (x2 : Int32) (M : sm_M) (r : sm_M), f_X10_findRun_70 F kb37 x1 x2 M = some r → sm_J (md_X10_findRun, 1, sk, .inl none, r) 70 [some (.ref 52), some (.int x1), some (.int x2)] [] M := by
  intro x1 x2  M r h
  unfold f_X10_findRun_70 at h
  refine sm_iload_n (q := 71) d_X10_findRun_70 rfl rfl ?_
  refine sm_if_le (q := 74) (t := 89) d_X10_findRun_71 rfl rfl (fun c1 => ?_) (fun c1 => ?_)
  · replace h := sm_it c1 h
    exact j_X10_findRun_89 hx F kb37 hkb37 x1 x2 M _ h
  · replace h := sm_if c1 h
    refine sm_aload_n (q := 75) d_X10_findRun_74 rfl rfl ?_
    refine sm_getr (q := 78) d_X10_findRun_75 rfl fl_X10_21 (hx sx_52) rfl ?_
    refine sm_aload_n (q := 79) d_X10_findRun_78 rfl rfl ?_
    refine sm_getr (q := 82) d_X10_findRun_79 rfl fl_X10_9 (hx sx_52) rfl ?_
    refine sm_iload_n (q := 83) d_X10_findRun_82 rfl rfl ?_
    obtain ⟨g2, h⟩ := sm_gt h
    refine sm_iaload (q := 84) d_X10_findRun_83 rfl (hx sx_53) (sm_ib_of g2) ?_
    refine sm_iconst (q := 85) d_X10_findRun_84 rfl ci_0 ?_
    obtain ⟨g3, h⟩ := sm_gt h
    refine sm_bastore (q := 86) d_X10_findRun_85 rfl (hx sx_56) (sm_ib_of g3) ?_
    refine sm_iinc (q := 89) (v := (x1 + (-1))) (lt := [some (.ref 52), some (.int (x1 + (-1))), some (.int x2)]) d_X10_findRun_86 rfl rfl (ii_m1 _) (Nat.le_of_ble_eq_true rfl) rfl rfl ?_
    exact j_X10_findRun_89 hx F kb37 hkb37 (x1 + (-1)) x2 ((sm_mi M 56 (M.1 53 x2.toNatClampNeg).toNatClampNeg (vp_nar .boolean (0 : Int32)))) _ h
def f_X10_findRun_37b (F : Nat) (kb37 : Int32 → Int32 → sm_M → Option (sm_M)) (x1 : Int32) (x2 : Int32) (M : sm_M) : Option (sm_M) := if (M.1 52 4) ≤ x2 then (some M) else ((f_X10_lengthenRun F x2 x1 M).bind fun q2 => if q2.1 ≤ (q2.2.1 52 6) then (f_X10_findRun_70 F kb37 q2.1 x2 q2.2) else (f_X10_findRun_70 F kb37 q2.1 x2 ((sm_mi (sm_mi q2.2 52 6 q2.1) 52 7 x2))))
set_option maxRecDepth 100000 in
set_option maxHeartbeats 4000000 in
theorem j_X10_findRun_37b {sk : List sm_Sh} (hx : sm_ext skX sk) (F : Nat) (kb37 : Int32 → Int32 → sm_M → Option (sm_M)) (hkb37 : ∀ (x1 : Int32) (x2 : Int32) (M : sm_M) (r : sm_M), kb37 x1 x2 M = some r → sm_J (md_X10_findRun, 1, sk, .inl none, r) 37 [some (.ref 52), some (.int x1), some (.int x2)] [] M) : ∀ (x1 : Int32) (x2 : Int32) (M : sm_M) (r : sm_M), f_X10_findRun_37b F kb37 x1 x2 M = some r → sm_J (md_X10_findRun, 1, sk, .inl none, r) 37 [some (.ref 52), some (.int x1), some (.int x2)] [] M := by
  intro x1 x2  M r h
  unfold f_X10_findRun_37b at h
  refine sm_iload_n (q := 38) d_X10_findRun_37 rfl rfl ?_
  refine sm_aload_n (q := 39) d_X10_findRun_38 rfl rfl ?_
  refine sm_geti (q := 42) d_X10_findRun_39 rfl fl_X10_31 (hx sx_52) rfl ?_
  refine sm_icmp_ge (q := 45) (t := 95) d_X10_findRun_42 rfl rfl (fun c1 => ?_) (fun c1 => ?_)
  · replace h := sm_it c1 h
    obtain rfl := Option.some.inj h
    exact sm_vret d_X10_findRun_95 rfl rfl rfl
  · replace h := sm_if c1 h
    refine sm_aload_n (q := 46) d_X10_findRun_45 rfl rfl ?_
    refine sm_iload_n (q := 47) d_X10_findRun_46 rfl rfl ?_
    refine sm_iload_n (q := 48) d_X10_findRun_47 rfl rfl ?_
    obtain ⟨q2, e2, h⟩ := sm_bd h
    refine sm_callV (q := 51) (d' := 0) [] [.int x2, .int x1] d_X10_findRun_48 rfl lk_X10_61 (hx sx_52) rfl rfl rfl (Nat.le_of_ble_eq_true rfl) (Nat.le_of_ble_eq_true rfl) (c_X10_lengthenRun hx F x2 x1 M _ e2) (st9 := [.int q2.1]) rfl ?_
    refine sm_istore_n (q := 52) (lt := [some (.ref 52), some (.int q2.1), some (.int x2)]) d_X10_findRun_51 rfl (Nat.le_of_ble_eq_true rfl) rfl rfl ?_
    refine sm_iload_n (q := 53) d_X10_findRun_52 rfl rfl ?_
    refine sm_aload_n (q := 54) d_X10_findRun_53 rfl rfl ?_
    refine sm_geti (q := 57) d_X10_findRun_54 rfl fl_X10_55 (hx sx_52) rfl ?_
    refine sm_icmp_le (q := 60) (t := 70) d_X10_findRun_57 rfl rfl (fun c3 => ?_) (fun c3 => ?_)
    · replace h := sm_it c3 h
      exact j_X10_findRun_70 hx F kb37 hkb37 q2.1 x2 q2.2 _ h
    · replace h := sm_if c3 h
      refine sm_aload_n (q := 61) d_X10_findRun_60 rfl rfl ?_
      refine sm_iload_n (q := 62) d_X10_findRun_61 rfl rfl ?_
      refine sm_puti (q := 65) d_X10_findRun_62 rfl fw_X10_55 (hx sx_52) rfl rfl rfl ?_
      refine sm_aload_n (q := 66) d_X10_findRun_65 rfl rfl ?_
      refine sm_iload_n (q := 67) d_X10_findRun_66 rfl rfl ?_
      refine sm_puti (q := 70) d_X10_findRun_67 rfl fw_X10_58 (hx sx_52) rfl rfl rfl ?_
      exact j_X10_findRun_70 hx F kb37 hkb37 q2.1 x2 ((sm_mi (sm_mi q2.2 52 6 q2.1) 52 7 x2)) _ h
def f_X10_findRun_37 (F : Nat) (n : Nat) : Int32 → Int32 → sm_M → Option (sm_M) := match n with
 | 0 => fun _ _ _ => none
 | n + 1 => f_X10_findRun_37b F (f_X10_findRun_37 F n)
theorem j_X10_findRun_37 {sk : List sm_Sh} (hx : sm_ext skX sk) (F : Nat) : ∀ (n : Nat) (x1 : Int32) (x2 : Int32) (M : sm_M) (r : sm_M), f_X10_findRun_37 F n x1 x2 M = some r → sm_J (md_X10_findRun, 1, sk, .inl none, r) 37 [some (.ref 52), some (.int x1), some (.int x2)] [] M := by
  intro n
  induction n with
  | zero => intro x1 x2  M r h; exact nomatch (show (none : Option (sm_M)) = some r from h)
  | succ n ih => exact j_X10_findRun_37b hx F (f_X10_findRun_37 F n) ih
def f_X10_findRun_2b (F : Nat) (kb2 : Int32 → sm_M → Option (sm_M)) (x1 : Int32) (M : sm_M) : Option (sm_M) := if (M.1 52 5) ≤ x1 then (f_X10_findRun_37 F F (0 : Int32) (0 : Int32) ((sm_mi (sm_mi M 52 6 (0 : Int32)) 52 7 (0 : Int32)))) else (sm_g (sm_ib x1 200) (kb2 (x1 + 1) ((sm_mi M 56 x1.toNatClampNeg (vp_nar .boolean (0 : Int32))))))
set_option maxRecDepth 100000 in
set_option maxHeartbeats 4000000 in
theorem j_X10_findRun_2b {sk : List sm_Sh} (hx : sm_ext skX sk) (F : Nat) (kb2 : Int32 → sm_M → Option (sm_M)) (hkb2 : ∀ (x1 : Int32) (M : sm_M) (r : sm_M), kb2 x1 M = some r → sm_J (md_X10_findRun, 1, sk, .inl none, r) 2 [some (.ref 52), some (.int x1), none] [] M) : ∀ (x1 : Int32) (M : sm_M) (r : sm_M), f_X10_findRun_2b F kb2 x1 M = some r → sm_J (md_X10_findRun, 1, sk, .inl none, r) 2 [some (.ref 52), some (.int x1), none] [] M := by
  intro x1  M r h
  unfold f_X10_findRun_2b at h
  refine sm_iload_n (q := 3) d_X10_findRun_2 rfl rfl ?_
  refine sm_aload_n (q := 4) d_X10_findRun_3 rfl rfl ?_
  refine sm_geti (q := 7) d_X10_findRun_4 rfl fl_X10_43 (hx sx_52) rfl ?_
  refine sm_icmp_ge (q := 10) (t := 23) d_X10_findRun_7 rfl rfl (fun c1 => ?_) (fun c1 => ?_)
  · replace h := sm_it c1 h
    refine sm_aload_n (q := 24) d_X10_findRun_23 rfl rfl ?_
    refine sm_iconst (q := 25) d_X10_findRun_24 rfl ci_0 ?_
    refine sm_puti (q := 28) d_X10_findRun_25 rfl fw_X10_55 (hx sx_52) rfl rfl rfl ?_
    refine sm_aload_n (q := 29) d_X10_findRun_28 rfl rfl ?_
    refine sm_iconst (q := 30) d_X10_findRun_29 rfl ci_0 ?_
    refine sm_puti (q := 33) d_X10_findRun_30 rfl fw_X10_58 (hx sx_52) rfl rfl rfl ?_
    refine sm_iconst (q := 34) d_X10_findRun_33 rfl ci_0 ?_
    refine sm_istore_n (q := 35) (lt := [some (.ref 52), some (.int (0 : Int32)), none]) d_X10_findRun_34 rfl (Nat.le_of_ble_eq_true rfl) rfl rfl ?_
    refine sm_iconst (q := 36) d_X10_findRun_35 rfl ci_0 ?_
    refine sm_istore_n (q := 37) (lt := [some (.ref 52), some (.int (0 : Int32)), some (.int (0 : Int32))]) d_X10_findRun_36 rfl (Nat.le_of_ble_eq_true rfl) rfl rfl ?_
    exact j_X10_findRun_37 hx F F (0 : Int32) (0 : Int32) ((sm_mi (sm_mi M 52 6 (0 : Int32)) 52 7 (0 : Int32))) _ h
  · replace h := sm_if c1 h
    refine sm_aload_n (q := 11) d_X10_findRun_10 rfl rfl ?_
    refine sm_getr (q := 14) d_X10_findRun_11 rfl fl_X10_21 (hx sx_52) rfl ?_
    refine sm_iload_n (q := 15) d_X10_findRun_14 rfl rfl ?_
    refine sm_iconst (q := 16) d_X10_findRun_15 rfl ci_0 ?_
    obtain ⟨g2, h⟩ := sm_gt h
    refine sm_bastore (q := 17) d_X10_findRun_16 rfl (hx sx_56) (sm_ib_of g2) ?_
    refine sm_iinc (q := 20) (v := (x1 + 1)) (lt := [some (.ref 52), some (.int (x1 + 1)), none]) d_X10_findRun_17 rfl rfl (ii_1 _) (Nat.le_of_ble_eq_true rfl) rfl rfl ?_
    refine sm_goto (t := 2) d_X10_findRun_20 rfl ?_
    exact hkb2 (x1 + 1) ((sm_mi M 56 x1.toNatClampNeg (vp_nar .boolean (0 : Int32)))) _ h
def f_X10_findRun_2 (F : Nat) (n : Nat) : Int32 → sm_M → Option (sm_M) := match n with
 | 0 => fun _ _ => none
 | n + 1 => f_X10_findRun_2b F (f_X10_findRun_2 F n)
theorem j_X10_findRun_2 {sk : List sm_Sh} (hx : sm_ext skX sk) (F : Nat) : ∀ (n : Nat) (x1 : Int32) (M : sm_M) (r : sm_M), f_X10_findRun_2 F n x1 M = some r → sm_J (md_X10_findRun, 1, sk, .inl none, r) 2 [some (.ref 52), some (.int x1), none] [] M := by
  intro n
  induction n with
  | zero => intro x1  M r h; exact nomatch (show (none : Option (sm_M)) = some r from h)
  | succ n ih => exact j_X10_findRun_2b hx F (f_X10_findRun_2 F n) ih
def f_X10_findRun (F : Nat) (M : sm_M) : Option (sm_M) := f_X10_findRun_2 F F (0 : Int32) M
set_option maxRecDepth 100000 in
set_option maxHeartbeats 4000000 in
theorem j_X10_findRun {sk : List sm_Sh} (hx : sm_ext skX sk) (F : Nat) : ∀ (M : sm_M) (r : sm_M), f_X10_findRun F M = some r → sm_J (md_X10_findRun, 1, sk, .inl none, r) 0 [some (.ref 52), none, none] [] M := by
  intro   M r h
  unfold f_X10_findRun at h
  refine sm_iconst (q := 1) d_X10_findRun_0 rfl ci_0 ?_
  refine sm_istore_n (q := 2) (lt := [some (.ref 52), some (.int (0 : Int32)), none]) d_X10_findRun_1 rfl (Nat.le_of_ble_eq_true rfl) rfl rfl ?_
  exact j_X10_findRun_2 hx F F (0 : Int32) M _ h
theorem c_X10_findRun {sk : List sm_Sh} (hx : sm_ext skX sk) (F : Nat) (M : sm_M) (r : sm_M) (h : f_X10_findRun F M = some r) : sm_Ct yX10_findRun md_X10_findRun 1 sk [.ref 52] M (.inl none) r := sm_enter 2 pn_X10 rfl (Nat.le_of_ble_eq_true rfl) rfl (j_X10_findRun hx F M r h)
/-! UniversalCycles$Greedy.markWindows(LUniversalCycles$Family;LUniversalCycles$Row;)V -/
theorem d_X5_markWindows_0 : decode cX5_markWindows 0 = .ok (.iconst 0, 1) := by decide +kernel
theorem d_X5_markWindows_1 : decode cX5_markWindows 1 = .ok (.istore_n 3, 1) := by decide +kernel
theorem d_X5_markWindows_2 : decode cX5_markWindows 2 = .ok (.iload_n 3, 1) := by decide +kernel
theorem d_X5_markWindows_3 : decode cX5_markWindows 3 = .ok (.sipush 200, 3) := by decide +kernel
theorem d_X5_markWindows_6 : decode cX5_markWindows 6 = .ok (.if_icmp .ge 16, 3) := by decide +kernel
theorem d_X5_markWindows_9 : decode cX5_markWindows 9 = .ok (.aload_n 0, 1) := by decide +kernel
theorem d_X5_markWindows_10 : decode cX5_markWindows 10 = .ok (.getfield 9, 3) := by decide +kernel
theorem d_X5_markWindows_13 : decode cX5_markWindows 13 = .ok (.iload_n 3, 1) := by decide +kernel
theorem d_X5_markWindows_14 : decode cX5_markWindows 14 = .ok (.iconst 0, 1) := by decide +kernel
theorem d_X5_markWindows_15 : decode cX5_markWindows 15 = .ok (.bastore, 1) := by decide +kernel
theorem d_X5_markWindows_16 : decode cX5_markWindows 16 = .ok (.iinc 3 1, 3) := by decide +kernel
theorem d_X5_markWindows_19 : decode cX5_markWindows 19 = .ok (.goto (-17), 3) := by decide +kernel
theorem d_X5_markWindows_22 : decode cX5_markWindows 22 = .ok (.iconst 0, 1) := by decide +kernel
theorem d_X5_markWindows_23 : decode cX5_markWindows 23 = .ok (.istore_n 3, 1) := by decide +kernel
theorem d_X5_markWindows_24 : decode cX5_markWindows 24 = .ok (.iload_n 3, 1) := by decide +kernel
theorem d_X5_markWindows_25 : decode cX5_markWindows 25 = .ok (.aload_n 1, 1) := by decide +kernel
theorem d_X5_markWindows_26 : decode cX5_markWindows 26 = .ok (.getfield 29, 3) := by decide +kernel
theorem d_X5_markWindows_29 : decode cX5_markWindows 29 = .ok (.iadd, 1) := by decide +kernel
theorem d_X5_markWindows_30 : decode cX5_markWindows 30 = .ok (.aload_n 2, 1) := by decide +kernel
theorem d_X5_markWindows_31 : decode cX5_markWindows 31 = .ok (.getfield 19, 3) := by decide +kernel
theorem d_X5_markWindows_34 : decode cX5_markWindows 34 = .ok (.if_icmp .gt 31, 3) := by decide +kernel
theorem d_X5_markWindows_37 : decode cX5_markWindows 37 = .ok (.aload_n 1, 1) := by decide +kernel
theorem d_X5_markWindows_38 : decode cX5_markWindows 38 = .ok (.aload_n 2, 1) := by decide +kernel
theorem d_X5_markWindows_39 : decode cX5_markWindows 39 = .ok (.iload_n 3, 1) := by decide +kernel
theorem d_X5_markWindows_40 : decode cX5_markWindows 40 = .ok (.invokevirtual 34, 3) := by decide +kernel
theorem d_X5_markWindows_43 : decode cX5_markWindows 43 = .ok (.istore 4, 2) := by decide +kernel
theorem d_X5_markWindows_45 : decode cX5_markWindows 45 = .ok (.iload 4, 2) := by decide +kernel
theorem d_X5_markWindows_47 : decode cX5_markWindows 47 = .ok (.iconst (-1), 1) := by decide +kernel
theorem d_X5_markWindows_48 : decode cX5_markWindows 48 = .ok (.if_icmp .eq 11, 3) := by decide +kernel
theorem d_X5_markWindows_51 : decode cX5_markWindows 51 = .ok (.aload_n 0, 1) := by decide +kernel
theorem d_X5_markWindows_52 : decode cX5_markWindows 52 = .ok (.getfield 9, 3) := by decide +kernel
theorem d_X5_markWindows_55 : decode cX5_markWindows 55 = .ok (.iload 4, 2) := by decide +kernel
theorem d_X5_markWindows_57 : decode cX5_markWindows 57 = .ok (.iconst 1, 1) := by decide +kernel
theorem d_X5_markWindows_58 : decode cX5_markWindows 58 = .ok (.bastore, 1) := by decide +kernel
theorem d_X5_markWindows_59 : decode cX5_markWindows 59 = .ok (.iinc 3 1, 3) := by decide +kernel
theorem d_X5_markWindows_62 : decode cX5_markWindows 62 = .ok (.goto (-38), 3) := by decide +kernel
theorem d_X5_markWindows_65 : decode cX5_markWindows 65 = .ok (.return_, 1) := by decide +kernel
def f_X5_markWindows_59 (F : Nat) (a2 : Nat) (kb24 : Int32 → sm_M → Option (sm_M)) (x3 : Int32) (M : sm_M) : Option (sm_M) := kb24 (x3 + 1) M
set_option maxRecDepth 100000 in
set_option maxHeartbeats 4000000 in
theorem j_X5_markWindows_59 {sk : List sm_Sh} (hx : sm_ext skX sk) (F : Nat) (a2 : Nat) (ha2 : sm_row sk a2) (kb24 : Int32 → sm_M → Option (sm_M)) (hkb24 : ∀ (x3 : Int32) (M : sm_M) (r : sm_M), kb24 x3 M = some r → sm_J (md_X5_markWindows, 3, sk, .inl none, r) 24 [some (.ref 62), some (.ref 1), some (.ref a2), some (.int x3), none] [] M) : ∀ (x3 : Int32) (M : sm_M) (r : sm_M), f_X5_markWindows_59 F a2 kb24 x3 M = some r → sm_J (md_X5_markWindows, 3, sk, .inl none, r) 59 [some (.ref 62), some (.ref 1), some (.ref a2), some (.int x3), none] [] M := by
  intro x3  M r h
  unfold f_X5_markWindows_59 at h
  refine sm_iinc (q := 62) (v := (x3 + 1)) (lt := [some (.ref 62), some (.ref 1), some (.ref a2), some (.int (x3 + 1)), none]) d_X5_markWindows_59 rfl rfl (ii_1 _) (Nat.le_of_ble_eq_true rfl) rfl rfl ?_
  refine sm_goto (t := 24) d_X5_markWindows_62 rfl ?_
  exact hkb24 (x3 + 1) M _ h
def f_X5_markWindows_24b (F : Nat) (a2 : Nat) (kb24 : Int32 → sm_M → Option (sm_M)) (x3 : Int32) (M : sm_M) : Option (sm_M) := if (M.1 a2 1) < (x3 + (M.1 1 2)) then (some M) else ((f_X2_shownBy F a2 x3 M).bind fun q2 => if q2 = (-1 : Int32) then (f_X5_markWindows_59 F a2 kb24 x3 M) else (sm_g (sm_ib q2 200) (f_X5_markWindows_59 F a2 kb24 x3 ((sm_mi M 63 q2.toNatClampNeg (vp_nar .boolean (1 : Int32)))))))
set_option maxRecDepth 100000 in
set_option maxHeartbeats 4000000 in
theorem j_X5_markWindows_24b {sk : List sm_Sh} (hx : sm_ext skX sk) (F : Nat) (a2 : Nat) (ha2 : sm_row sk a2) (kb24 : Int32 → sm_M → Option (sm_M)) (hkb24 : ∀ (x3 : Int32) (M : sm_M) (r : sm_M), kb24 x3 M = some r → sm_J (md_X5_markWindows, 3, sk, .inl none, r) 24 [some (.ref 62), some (.ref 1), some (.ref a2), some (.int x3), none] [] M) : ∀ (x3 : Int32) (M : sm_M) (r : sm_M), f_X5_markWindows_24b F a2 kb24 x3 M = some r → sm_J (md_X5_markWindows, 3, sk, .inl none, r) 24 [some (.ref 62), some (.ref 1), some (.ref a2), some (.int x3), none] [] M := by
  intro x3  M r h
  unfold f_X5_markWindows_24b at h
  refine sm_iload_n (q := 25) d_X5_markWindows_24 rfl rfl ?_
  refine sm_aload_n (q := 26) d_X5_markWindows_25 rfl rfl ?_
  refine sm_geti (q := 29) d_X5_markWindows_26 rfl fl_X5_29 (hx sx_1) rfl ?_
  refine sm_iadd (q := 30) d_X5_markWindows_29 rfl ?_
  refine sm_aload_n (q := 31) d_X5_markWindows_30 rfl rfl ?_
  refine sm_geti (q := 34) d_X5_markWindows_31 rfl fl_X5_19 ha2.1 rfl ?_
  refine sm_icmp_gt (q := 37) (t := 65) d_X5_markWindows_34 rfl rfl (fun c1 => ?_) (fun c1 => ?_)
  · replace h := sm_it c1 h
    obtain rfl := Option.some.inj h
    exact sm_vret d_X5_markWindows_65 rfl rfl rfl
  · replace h := sm_if c1 h
    refine sm_aload_n (q := 38) d_X5_markWindows_37 rfl rfl ?_
    refine sm_aload_n (q := 39) d_X5_markWindows_38 rfl rfl ?_
    refine sm_iload_n (q := 40) d_X5_markWindows_39 rfl rfl ?_
    obtain ⟨q2, e2, h⟩ := sm_bd h
    refine sm_callV (q := 43) (d' := 2) [] [.ref a2, .int x3] d_X5_markWindows_40 rfl lk_X5_34 (hx sx_1) rfl rfl rfl (Nat.le_of_ble_eq_true rfl) (Nat.le_of_ble_eq_true rfl) (c_X2_shownBy hx F a2 ha2 x3 M _ e2) (st9 := [.int q2]) rfl ?_
    refine sm_istore (q := 45) (lt := [some (.ref 62), some (.ref 1), some (.ref a2), some (.int x3), some (.int q2)]) d_X5_markWindows_43 rfl (Nat.le_of_ble_eq_true rfl) rfl rfl ?_
    refine sm_iload (q := 47) d_X5_markWindows_45 rfl rfl ?_
    refine sm_iconst (q := 48) d_X5_markWindows_47 rfl ci_m1 ?_
    refine sm_icmp_eq (q := 51) (t := 59) d_X5_markWindows_48 rfl rfl (fun c3 => ?_) (fun c3 => ?_)
    · replace h := sm_it c3 h
      refine sm_fg [4] ?_
      exact j_X5_markWindows_59 hx F a2 ha2 kb24 hkb24 x3 M _ h
    · replace h := sm_if c3 h
      refine sm_aload_n (q := 52) d_X5_markWindows_51 rfl rfl ?_
      refine sm_getr (q := 55) d_X5_markWindows_52 rfl fl_X5_9 (hx sx_62) rfl ?_
      refine sm_iload (q := 57) d_X5_markWindows_55 rfl rfl ?_
      refine sm_iconst (q := 58) d_X5_markWindows_57 rfl ci_1 ?_
      obtain ⟨g4, h⟩ := sm_gt h
      refine sm_bastore (q := 59) d_X5_markWindows_58 rfl (hx sx_63) (sm_ib_of g4) ?_
      refine sm_fg [4] ?_
      exact j_X5_markWindows_59 hx F a2 ha2 kb24 hkb24 x3 ((sm_mi M 63 q2.toNatClampNeg (vp_nar .boolean (1 : Int32)))) _ h
def f_X5_markWindows_24 (F : Nat) (a2 : Nat) (n : Nat) : Int32 → sm_M → Option (sm_M) := match n with
 | 0 => fun _ _ => none
 | n + 1 => f_X5_markWindows_24b F a2 (f_X5_markWindows_24 F a2 n)
theorem j_X5_markWindows_24 {sk : List sm_Sh} (hx : sm_ext skX sk) (F : Nat) (a2 : Nat) (ha2 : sm_row sk a2) : ∀ (n : Nat) (x3 : Int32) (M : sm_M) (r : sm_M), f_X5_markWindows_24 F a2 n x3 M = some r → sm_J (md_X5_markWindows, 3, sk, .inl none, r) 24 [some (.ref 62), some (.ref 1), some (.ref a2), some (.int x3), none] [] M := by
  intro n
  induction n with
  | zero => intro x3  M r h; exact nomatch (show (none : Option (sm_M)) = some r from h)
  | succ n ih => exact j_X5_markWindows_24b hx F a2 ha2 (f_X5_markWindows_24 F a2 n) ih
def f_X5_markWindows_2b (F : Nat) (a2 : Nat) (kb2 : Int32 → sm_M → Option (sm_M)) (x3 : Int32) (M : sm_M) : Option (sm_M) := if (200 : Int32) ≤ x3 then (f_X5_markWindows_24 F a2 F (0 : Int32) M) else (sm_g (sm_ib x3 200) (kb2 (x3 + 1) ((sm_mi M 63 x3.toNatClampNeg (vp_nar .boolean (0 : Int32))))))
set_option maxRecDepth 100000 in
set_option maxHeartbeats 4000000 in
theorem j_X5_markWindows_2b {sk : List sm_Sh} (hx : sm_ext skX sk) (F : Nat) (a2 : Nat) (ha2 : sm_row sk a2) (kb2 : Int32 → sm_M → Option (sm_M)) (hkb2 : ∀ (x3 : Int32) (M : sm_M) (r : sm_M), kb2 x3 M = some r → sm_J (md_X5_markWindows, 3, sk, .inl none, r) 2 [some (.ref 62), some (.ref 1), some (.ref a2), some (.int x3), none] [] M) : ∀ (x3 : Int32) (M : sm_M) (r : sm_M), f_X5_markWindows_2b F a2 kb2 x3 M = some r → sm_J (md_X5_markWindows, 3, sk, .inl none, r) 2 [some (.ref 62), some (.ref 1), some (.ref a2), some (.int x3), none] [] M := by
  intro x3  M r h
  unfold f_X5_markWindows_2b at h
  refine sm_iload_n (q := 3) d_X5_markWindows_2 rfl rfl ?_
  refine sm_sipush (q := 6) d_X5_markWindows_3 rfl cs_200 ?_
  refine sm_icmp_ge (q := 9) (t := 22) d_X5_markWindows_6 rfl rfl (fun c1 => ?_) (fun c1 => ?_)
  · replace h := sm_it c1 h
    refine sm_iconst (q := 23) d_X5_markWindows_22 rfl ci_0 ?_
    refine sm_istore_n (q := 24) (lt := [some (.ref 62), some (.ref 1), some (.ref a2), some (.int (0 : Int32)), none]) d_X5_markWindows_23 rfl (Nat.le_of_ble_eq_true rfl) rfl rfl ?_
    exact j_X5_markWindows_24 hx F a2 ha2 F (0 : Int32) M _ h
  · replace h := sm_if c1 h
    refine sm_aload_n (q := 10) d_X5_markWindows_9 rfl rfl ?_
    refine sm_getr (q := 13) d_X5_markWindows_10 rfl fl_X5_9 (hx sx_62) rfl ?_
    refine sm_iload_n (q := 14) d_X5_markWindows_13 rfl rfl ?_
    refine sm_iconst (q := 15) d_X5_markWindows_14 rfl ci_0 ?_
    obtain ⟨g2, h⟩ := sm_gt h
    refine sm_bastore (q := 16) d_X5_markWindows_15 rfl (hx sx_63) (sm_ib_of g2) ?_
    refine sm_iinc (q := 19) (v := (x3 + 1)) (lt := [some (.ref 62), some (.ref 1), some (.ref a2), some (.int (x3 + 1)), none]) d_X5_markWindows_16 rfl rfl (ii_1 _) (Nat.le_of_ble_eq_true rfl) rfl rfl ?_
    refine sm_goto (t := 2) d_X5_markWindows_19 rfl ?_
    exact hkb2 (x3 + 1) ((sm_mi M 63 x3.toNatClampNeg (vp_nar .boolean (0 : Int32)))) _ h
def f_X5_markWindows_2 (F : Nat) (a2 : Nat) (n : Nat) : Int32 → sm_M → Option (sm_M) := match n with
 | 0 => fun _ _ => none
 | n + 1 => f_X5_markWindows_2b F a2 (f_X5_markWindows_2 F a2 n)
theorem j_X5_markWindows_2 {sk : List sm_Sh} (hx : sm_ext skX sk) (F : Nat) (a2 : Nat) (ha2 : sm_row sk a2) : ∀ (n : Nat) (x3 : Int32) (M : sm_M) (r : sm_M), f_X5_markWindows_2 F a2 n x3 M = some r → sm_J (md_X5_markWindows, 3, sk, .inl none, r) 2 [some (.ref 62), some (.ref 1), some (.ref a2), some (.int x3), none] [] M := by
  intro n
  induction n with
  | zero => intro x3  M r h; exact nomatch (show (none : Option (sm_M)) = some r from h)
  | succ n ih => exact j_X5_markWindows_2b hx F a2 ha2 (f_X5_markWindows_2 F a2 n) ih
def f_X5_markWindows (F : Nat) (a2 : Nat) (M : sm_M) : Option (sm_M) := f_X5_markWindows_2 F a2 F (0 : Int32) M
set_option maxRecDepth 100000 in
set_option maxHeartbeats 4000000 in
theorem j_X5_markWindows {sk : List sm_Sh} (hx : sm_ext skX sk) (F : Nat) (a2 : Nat) (ha2 : sm_row sk a2) : ∀ (M : sm_M) (r : sm_M), f_X5_markWindows F a2 M = some r → sm_J (md_X5_markWindows, 3, sk, .inl none, r) 0 [some (.ref 62), some (.ref 1), some (.ref a2), none, none] [] M := by
  intro   M r h
  unfold f_X5_markWindows at h
  refine sm_iconst (q := 1) d_X5_markWindows_0 rfl ci_0 ?_
  refine sm_istore_n (q := 2) (lt := [some (.ref 62), some (.ref 1), some (.ref a2), some (.int (0 : Int32)), none]) d_X5_markWindows_1 rfl (Nat.le_of_ble_eq_true rfl) rfl rfl ?_
  exact j_X5_markWindows_2 hx F a2 ha2 F (0 : Int32) M _ h
theorem c_X5_markWindows {sk : List sm_Sh} (hx : sm_ext skX sk) (F : Nat) (a2 : Nat) (ha2 : sm_row sk a2) (M : sm_M) (r : sm_M) (h : f_X5_markWindows F a2 M = some r) : sm_Ct yX5_markWindows md_X5_markWindows 3 sk [.ref 62, .ref 1, .ref a2] M (.inl none) r := sm_enter 2 pn_X5 rfl (Nat.le_of_ble_eq_true rfl) rfl (j_X5_markWindows hx F a2 ha2 M r h)
/-! UniversalCycles$Greedy.extendByOne(LUniversalCycles$Family;LUniversalCycles$Row;)Z -/
theorem d_X5_extendByOne_0 : decode cX5_extendByOne 0 = .ok (.aload_n 2, 1) := by decide +kernel
theorem d_X5_extendByOne_1 : decode cX5_extendByOne 1 = .ok (.getfield 19, 3) := by decide +kernel
theorem d_X5_extendByOne_4 : decode cX5_extendByOne 4 = .ok (.iconst 1, 1) := by decide +kernel
theorem d_X5_extendByOne_5 : decode cX5_extendByOne 5 = .ok (.iadd, 1) := by decide +kernel
theorem d_X5_extendByOne_6 : decode cX5_extendByOne 6 = .ok (.aload_n 1, 1) := by decide +kernel
theorem d_X5_extendByOne_7 : decode cX5_extendByOne 7 = .ok (.getfield 29, 3) := by decide +kernel
theorem d_X5_extendByOne_10 : decode cX5_extendByOne 10 = .ok (.if_icmp .ge 10, 3) := by decide +kernel
theorem d_X5_extendByOne_13 : decode cX5_extendByOne 13 = .ok (.aload_n 2, 1) := by decide +kernel
theorem d_X5_extendByOne_14 : decode cX5_extendByOne 14 = .ok (.iconst 0, 1) := by decide +kernel
theorem d_X5_extendByOne_15 : decode cX5_extendByOne 15 = .ok (.invokevirtual 38, 3) := by decide +kernel
theorem d_X5_extendByOne_18 : decode cX5_extendByOne 18 = .ok (.iconst 1, 1) := by decide +kernel
theorem d_X5_extendByOne_19 : decode cX5_extendByOne 19 = .ok (.ireturn, 1) := by decide +kernel
theorem d_X5_extendByOne_20 : decode cX5_extendByOne 20 = .ok (.aload_n 1, 1) := by decide +kernel
theorem d_X5_extendByOne_21 : decode cX5_extendByOne 21 = .ok (.getfield 42, 3) := by decide +kernel
theorem d_X5_extendByOne_24 : decode cX5_extendByOne 24 = .ok (.iconst 1, 1) := by decide +kernel
theorem d_X5_extendByOne_25 : decode cX5_extendByOne 25 = .ok (.isub, 1) := by decide +kernel
theorem d_X5_extendByOne_26 : decode cX5_extendByOne 26 = .ok (.istore_n 3, 1) := by decide +kernel
theorem d_X5_extendByOne_27 : decode cX5_extendByOne 27 = .ok (.iload_n 3, 1) := by decide +kernel
theorem d_X5_extendByOne_28 : decode cX5_extendByOne 28 = .ok (.ifCond .lt 66, 3) := by decide +kernel
theorem d_X5_extendByOne_31 : decode cX5_extendByOne 31 = .ok (.aload_n 2, 1) := by decide +kernel
theorem d_X5_extendByOne_32 : decode cX5_extendByOne 32 = .ok (.iload_n 3, 1) := by decide +kernel
theorem d_X5_extendByOne_33 : decode cX5_extendByOne 33 = .ok (.invokevirtual 38, 3) := by decide +kernel
theorem d_X5_extendByOne_36 : decode cX5_extendByOne 36 = .ok (.aload_n 1, 1) := by decide +kernel
theorem d_X5_extendByOne_37 : decode cX5_extendByOne 37 = .ok (.aload_n 2, 1) := by decide +kernel
theorem d_X5_extendByOne_38 : decode cX5_extendByOne 38 = .ok (.aload_n 2, 1) := by decide +kernel
theorem d_X5_extendByOne_39 : decode cX5_extendByOne 39 = .ok (.getfield 19, 3) := by decide +kernel
theorem d_X5_extendByOne_42 : decode cX5_extendByOne 42 = .ok (.aload_n 1, 1) := by decide +kernel
theorem d_X5_extendByOne_43 : decode cX5_extendByOne 43 = .ok (.getfield 29, 3) := by decide +kernel
theorem d_X5_extendByOne_46 : decode cX5_extendByOne 46 = .ok (.isub, 1) := by decide +kernel
theorem d_X5_extendByOne_47 : decode cX5_extendByOne 47 = .ok (.invokevirtual 34, 3) := by decide +kernel
theorem d_X5_extendByOne_50 : decode cX5_extendByOne 50 = .ok (.istore 4, 2) := by decide +kernel
theorem d_X5_extendByOne_52 : decode cX5_extendByOne 52 = .ok (.iload 4, 2) := by decide +kernel
theorem d_X5_extendByOne_54 : decode cX5_extendByOne 54 = .ok (.iconst (-1), 1) := by decide +kernel
theorem d_X5_extendByOne_55 : decode cX5_extendByOne 55 = .ok (.if_icmp .eq 23, 3) := by decide +kernel
theorem d_X5_extendByOne_58 : decode cX5_extendByOne 58 = .ok (.aload_n 0, 1) := by decide +kernel
theorem d_X5_extendByOne_59 : decode cX5_extendByOne 59 = .ok (.getfield 9, 3) := by decide +kernel
theorem d_X5_extendByOne_62 : decode cX5_extendByOne 62 = .ok (.iload 4, 2) := by decide +kernel
theorem d_X5_extendByOne_64 : decode cX5_extendByOne 64 = .ok (.baload, 1) := by decide +kernel
theorem d_X5_extendByOne_65 : decode cX5_extendByOne 65 = .ok (.ifCond .ne 13, 3) := by decide +kernel
theorem d_X5_extendByOne_68 : decode cX5_extendByOne 68 = .ok (.aload_n 0, 1) := by decide +kernel
theorem d_X5_extendByOne_69 : decode cX5_extendByOne 69 = .ok (.getfield 9, 3) := by decide +kernel
theorem d_X5_extendByOne_72 : decode cX5_extendByOne 72 = .ok (.iload 4, 2) := by decide +kernel
theorem d_X5_extendByOne_74 : decode cX5_extendByOne 74 = .ok (.iconst 1, 1) := by decide +kernel
theorem d_X5_extendByOne_75 : decode cX5_extendByOne 75 = .ok (.bastore, 1) := by decide +kernel
theorem d_X5_extendByOne_76 : decode cX5_extendByOne 76 = .ok (.iconst 1, 1) := by decide +kernel
theorem d_X5_extendByOne_77 : decode cX5_extendByOne 77 = .ok (.ireturn, 1) := by decide +kernel
theorem d_X5_extendByOne_78 : decode cX5_extendByOne 78 = .ok (.aload_n 2, 1) := by decide +kernel
theorem d_X5_extendByOne_79 : decode cX5_extendByOne 79 = .ok (.dup, 1) := by decide +kernel
theorem d_X5_extendByOne_80 : decode cX5_extendByOne 80 = .ok (.getfield 19, 3) := by decide +kernel
theorem d_X5_extendByOne_83 : decode cX5_extendByOne 83 = .ok (.iconst 1, 1) := by decide +kernel
theorem d_X5_extendByOne_84 : decode cX5_extendByOne 84 = .ok (.isub, 1) := by decide +kernel
theorem d_X5_extendByOne_85 : decode cX5_extendByOne 85 = .ok (.putfield 19, 3) := by decide +kernel
theorem d_X5_extendByOne_88 : decode cX5_extendByOne 88 = .ok (.iinc 3 (-1), 3) := by decide +kernel
theorem d_X5_extendByOne_91 : decode cX5_extendByOne 91 = .ok (.goto (-64), 3) := by decide +kernel
theorem d_X5_extendByOne_94 : decode cX5_extendByOne 94 = .ok (.iconst 0, 1) := by decide +kernel
theorem d_X5_extendByOne_95 : decode cX5_extendByOne 95 = .ok (.ireturn, 1) := by decide +kernel
def f_X5_extendByOne_78 (F : Nat) (a2 : Nat) (kb27 : Int32 → sm_M → Option (Int32 × sm_M)) (x3 : Int32) (M : sm_M) : Option (Int32 × sm_M) := kb27 (x3 + (-1)) ((sm_mi M a2 1 ((M.1 a2 1) - (1 : Int32))))
set_option maxRecDepth 100000 in
set_option maxHeartbeats 4000000 in
theorem j_X5_extendByOne_78 {sk : List sm_Sh} (hx : sm_ext skX sk) (F : Nat) (a2 : Nat) (ha2 : sm_row sk a2) (kb27 : Int32 → sm_M → Option (Int32 × sm_M)) (hkb27 : ∀ (x3 : Int32) (M : sm_M) (r : Int32 × sm_M), kb27 x3 M = some r → sm_J (md_X5_extendByOne, 3, sk, .inl (some (.int r.1)), r.2) 27 [some (.ref 62), some (.ref 1), some (.ref a2), some (.int x3), none] [] M) : ∀ (x3 : Int32) (M : sm_M) (r : Int32 × sm_M), f_X5_extendByOne_78 F a2 kb27 x3 M = some r → sm_J (md_X5_extendByOne, 3, sk, .inl (some (.int r.1)), r.2) 78 [some (.ref 62), some (.ref 1), some (.ref a2), some (.int x3), none] [] M := by
  intro x3  M r h
  unfold f_X5_extendByOne_78 at h
  refine sm_aload_n (q := 79) d_X5_extendByOne_78 rfl rfl ?_
  refine sm_dup (q := 80) d_X5_extendByOne_79 rfl rfl ?_
  refine sm_geti (q := 83) d_X5_extendByOne_80 rfl fl_X5_19 ha2.1 rfl ?_
  refine sm_iconst (q := 84) d_X5_extendByOne_83 rfl ci_1 ?_
  refine sm_isub (q := 85) d_X5_extendByOne_84 rfl ?_
  refine sm_puti (q := 88) d_X5_extendByOne_85 rfl fw_X5_19 ha2.1 rfl rfl rfl ?_
  refine sm_iinc (q := 91) (v := (x3 + (-1))) (lt := [some (.ref 62), some (.ref 1), some (.ref a2), some (.int (x3 + (-1))), none]) d_X5_extendByOne_88 rfl rfl (ii_m1 _) (Nat.le_of_ble_eq_true rfl) rfl rfl ?_
  refine sm_goto (t := 27) d_X5_extendByOne_91 rfl ?_
  exact hkb27 (x3 + (-1)) ((sm_mi M a2 1 ((M.1 a2 1) - (1 : Int32)))) _ h
def f_X5_extendByOne_27b (F : Nat) (a2 : Nat) (kb27 : Int32 → sm_M → Option (Int32 × sm_M)) (x3 : Int32) (M : sm_M) : Option (Int32 × sm_M) := if x3 < 0 then (some ((0 : Int32), M)) else ((f_X7_push F a2 x3 M).bind fun q2 => (f_X2_shownBy F a2 ((q2.1 a2 1) - (q2.1 1 2)) q2).bind fun q3 => if q3 = (-1 : Int32) then (f_X5_extendByOne_78 F a2 kb27 x3 q2) else (sm_g (sm_ib q3 200) (if (q2.1 63 q3.toNatClampNeg) = 0 then (sm_g (sm_ib q3 200) (some ((1 : Int32), (sm_mi q2 63 q3.toNatClampNeg (vp_nar .boolean (1 : Int32)))))) else (f_X5_extendByOne_78 F a2 kb27 x3 q2))))
set_option maxRecDepth 100000 in
set_option maxHeartbeats 4000000 in
theorem j_X5_extendByOne_27b {sk : List sm_Sh} (hx : sm_ext skX sk) (F : Nat) (a2 : Nat) (ha2 : sm_row sk a2) (kb27 : Int32 → sm_M → Option (Int32 × sm_M)) (hkb27 : ∀ (x3 : Int32) (M : sm_M) (r : Int32 × sm_M), kb27 x3 M = some r → sm_J (md_X5_extendByOne, 3, sk, .inl (some (.int r.1)), r.2) 27 [some (.ref 62), some (.ref 1), some (.ref a2), some (.int x3), none] [] M) : ∀ (x3 : Int32) (M : sm_M) (r : Int32 × sm_M), f_X5_extendByOne_27b F a2 kb27 x3 M = some r → sm_J (md_X5_extendByOne, 3, sk, .inl (some (.int r.1)), r.2) 27 [some (.ref 62), some (.ref 1), some (.ref a2), some (.int x3), none] [] M := by
  intro x3  M r h
  unfold f_X5_extendByOne_27b at h
  refine sm_iload_n (q := 28) d_X5_extendByOne_27 rfl rfl ?_
  refine sm_if_lt (q := 31) (t := 94) d_X5_extendByOne_28 rfl rfl (fun c1 => ?_) (fun c1 => ?_)
  · replace h := sm_it c1 h
    refine sm_iconst (q := 95) d_X5_extendByOne_94 rfl ci_0 ?_
    obtain rfl := Option.some.inj h
    exact sm_iret d_X5_extendByOne_95 rfl (by decide) rfl rfl
  · replace h := sm_if c1 h
    refine sm_aload_n (q := 32) d_X5_extendByOne_31 rfl rfl ?_
    refine sm_iload_n (q := 33) d_X5_extendByOne_32 rfl rfl ?_
    obtain ⟨q2, e2, h⟩ := sm_bd h
    refine sm_callV (q := 36) (d' := 0) [] [.int x3] d_X5_extendByOne_33 rfl lk_X5_38 ha2.1 rfl rfl rfl (Nat.le_of_ble_eq_true rfl) (Nat.le_of_ble_eq_true rfl) (c_X7_push hx F a2 ha2 x3 M _ e2) (st9 := []) rfl ?_
    refine sm_aload_n (q := 37) d_X5_extendByOne_36 rfl rfl ?_
    refine sm_aload_n (q := 38) d_X5_extendByOne_37 rfl rfl ?_
    refine sm_aload_n (q := 39) d_X5_extendByOne_38 rfl rfl ?_
    refine sm_geti (q := 42) d_X5_extendByOne_39 rfl fl_X5_19 ha2.1 rfl ?_
    refine sm_aload_n (q := 43) d_X5_extendByOne_42 rfl rfl ?_
    refine sm_geti (q := 46) d_X5_extendByOne_43 rfl fl_X5_29 (hx sx_1) rfl ?_
    refine sm_isub (q := 47) d_X5_extendByOne_46 rfl ?_
    obtain ⟨q3, e3, h⟩ := sm_bd h
    refine sm_callV (q := 50) (d' := 2) [] [.ref a2, .int ((q2.1 a2 1) - (q2.1 1 2))] d_X5_extendByOne_47 rfl lk_X5_34 (hx sx_1) rfl rfl rfl (Nat.le_of_ble_eq_true rfl) (Nat.le_of_ble_eq_true rfl) (c_X2_shownBy hx F a2 ha2 ((q2.1 a2 1) - (q2.1 1 2)) q2 _ e3) (st9 := [.int q3]) rfl ?_
    refine sm_istore (q := 52) (lt := [some (.ref 62), some (.ref 1), some (.ref a2), some (.int x3), some (.int q3)]) d_X5_extendByOne_50 rfl (Nat.le_of_ble_eq_true rfl) rfl rfl ?_
    refine sm_iload (q := 54) d_X5_extendByOne_52 rfl rfl ?_
    refine sm_iconst (q := 55) d_X5_extendByOne_54 rfl ci_m1 ?_
    refine sm_icmp_eq (q := 58) (t := 78) d_X5_extendByOne_55 rfl rfl (fun c4 => ?_) (fun c4 => ?_)
    · replace h := sm_it c4 h
      refine sm_fg [4] ?_
      exact j_X5_extendByOne_78 hx F a2 ha2 kb27 hkb27 x3 q2 _ h
    · replace h := sm_if c4 h
      refine sm_aload_n (q := 59) d_X5_extendByOne_58 rfl rfl ?_
      refine sm_getr (q := 62) d_X5_extendByOne_59 rfl fl_X5_9 (hx sx_62) rfl ?_
      refine sm_iload (q := 64) d_X5_extendByOne_62 rfl rfl ?_
      obtain ⟨g5, h⟩ := sm_gt h
      refine sm_baload (q := 65) d_X5_extendByOne_64 rfl (hx sx_63) (sm_ib_of g5) ?_
      refine sm_if_ne (q := 68) (t := 78) d_X5_extendByOne_65 rfl rfl (fun c6 => ?_) (fun c6 => ?_)
      · replace h := sm_if c6 h
        refine sm_fg [4] ?_
        exact j_X5_extendByOne_78 hx F a2 ha2 kb27 hkb27 x3 q2 _ h
      · replace h := sm_it c6 h
        refine sm_aload_n (q := 69) d_X5_extendByOne_68 rfl rfl ?_
        refine sm_getr (q := 72) d_X5_extendByOne_69 rfl fl_X5_9 (hx sx_62) rfl ?_
        refine sm_iload (q := 74) d_X5_extendByOne_72 rfl rfl ?_
        refine sm_iconst (q := 75) d_X5_extendByOne_74 rfl ci_1 ?_
        obtain ⟨g7, h⟩ := sm_gt h
        refine sm_bastore (q := 76) d_X5_extendByOne_75 rfl (hx sx_63) (sm_ib_of g7) ?_
        refine sm_iconst (q := 77) d_X5_extendByOne_76 rfl ci_1 ?_
        obtain rfl := Option.some.inj h
        exact sm_iret d_X5_extendByOne_77 rfl (by decide) rfl rfl
def f_X5_extendByOne_27 (F : Nat) (a2 : Nat) (n : Nat) : Int32 → sm_M → Option (Int32 × sm_M) := match n with
 | 0 => fun _ _ => none
 | n + 1 => f_X5_extendByOne_27b F a2 (f_X5_extendByOne_27 F a2 n)
theorem j_X5_extendByOne_27 {sk : List sm_Sh} (hx : sm_ext skX sk) (F : Nat) (a2 : Nat) (ha2 : sm_row sk a2) : ∀ (n : Nat) (x3 : Int32) (M : sm_M) (r : Int32 × sm_M), f_X5_extendByOne_27 F a2 n x3 M = some r → sm_J (md_X5_extendByOne, 3, sk, .inl (some (.int r.1)), r.2) 27 [some (.ref 62), some (.ref 1), some (.ref a2), some (.int x3), none] [] M := by
  intro n
  induction n with
  | zero => intro x3  M r h; exact nomatch (show (none : Option (Int32 × sm_M)) = some r from h)
  | succ n ih => exact j_X5_extendByOne_27b hx F a2 ha2 (f_X5_extendByOne_27 F a2 n) ih
def f_X5_extendByOne (F : Nat) (a2 : Nat) (M : sm_M) : Option (Int32 × sm_M) := if (M.1 1 2) ≤ ((M.1 a2 1) + (1 : Int32)) then (f_X5_extendByOne_27 F a2 F ((M.1 1 3) - (1 : Int32)) M) else ((f_X7_push F a2 (0 : Int32) M).bind fun q2 => some ((1 : Int32), q2))
set_option maxRecDepth 100000 in
set_option maxHeartbeats 4000000 in
theorem j_X5_extendByOne {sk : List sm_Sh} (hx : sm_ext skX sk) (F : Nat) (a2 : Nat) (ha2 : sm_row sk a2) : ∀ (M : sm_M) (r : Int32 × sm_M), f_X5_extendByOne F a2 M = some r → sm_J (md_X5_extendByOne, 3, sk, .inl (some (.int r.1)), r.2) 0 [some (.ref 62), some (.ref 1), some (.ref a2), none, none] [] M := by
  intro   M r h
  unfold f_X5_extendByOne at h
  refine sm_aload_n (q := 1) d_X5_extendByOne_0 rfl rfl ?_
  refine sm_geti (q := 4) d_X5_extendByOne_1 rfl fl_X5_19 ha2.1 rfl ?_
  refine sm_iconst (q := 5) d_X5_extendByOne_4 rfl ci_1 ?_
  refine sm_iadd (q := 6) d_X5_extendByOne_5 rfl ?_
  refine sm_aload_n (q := 7) d_X5_extendByOne_6 rfl rfl ?_
  refine sm_geti (q := 10) d_X5_extendByOne_7 rfl fl_X5_29 (hx sx_1) rfl ?_
  refine sm_icmp_ge (q := 13) (t := 20) d_X5_extendByOne_10 rfl rfl (fun c1 => ?_) (fun c1 => ?_)
  · replace h := sm_it c1 h
    refine sm_aload_n (q := 21) d_X5_extendByOne_20 rfl rfl ?_
    refine sm_geti (q := 24) d_X5_extendByOne_21 rfl fl_X5_42 (hx sx_1) rfl ?_
    refine sm_iconst (q := 25) d_X5_extendByOne_24 rfl ci_1 ?_
    refine sm_isub (q := 26) d_X5_extendByOne_25 rfl ?_
    refine sm_istore_n (q := 27) (lt := [some (.ref 62), some (.ref 1), some (.ref a2), some (.int ((M.1 1 3) - (1 : Int32))), none]) d_X5_extendByOne_26 rfl (Nat.le_of_ble_eq_true rfl) rfl rfl ?_
    exact j_X5_extendByOne_27 hx F a2 ha2 F ((M.1 1 3) - (1 : Int32)) M _ h
  · replace h := sm_if c1 h
    refine sm_aload_n (q := 14) d_X5_extendByOne_13 rfl rfl ?_
    refine sm_iconst (q := 15) d_X5_extendByOne_14 rfl ci_0 ?_
    obtain ⟨q2, e2, h⟩ := sm_bd h
    refine sm_callV (q := 18) (d' := 0) [] [.int (0 : Int32)] d_X5_extendByOne_15 rfl lk_X5_38 ha2.1 rfl rfl rfl (Nat.le_of_ble_eq_true rfl) (Nat.le_of_ble_eq_true rfl) (c_X7_push hx F a2 ha2 (0 : Int32) M _ e2) (st9 := []) rfl ?_
    refine sm_iconst (q := 19) d_X5_extendByOne_18 rfl ci_1 ?_
    obtain rfl := Option.some.inj h
    exact sm_iret d_X5_extendByOne_19 rfl (by decide) rfl rfl
theorem c_X5_extendByOne {sk : List sm_Sh} (hx : sm_ext skX sk) (F : Nat) (a2 : Nat) (ha2 : sm_row sk a2) (M : sm_M) (r : Int32 × sm_M) (h : f_X5_extendByOne F a2 M = some r) : sm_Ct yX5_extendByOne md_X5_extendByOne 3 sk [.ref 62, .ref 1, .ref a2] M (.inl (some (.int r.1))) r.2 := sm_enter 2 pn_X5 rfl (Nat.le_of_ble_eq_true rfl) rfl (j_X5_extendByOne hx F a2 ha2 M r h)
/-! UniversalCycles$Greedy.extend(LUniversalCycles$Family;LUniversalCycles$Row;)V -/
theorem d_X5_extend_0 : decode cX5_extend 0 = .ok (.aload_n 0, 1) := by decide +kernel
theorem d_X5_extend_1 : decode cX5_extend 1 = .ok (.aload_n 1, 1) := by decide +kernel
theorem d_X5_extend_2 : decode cX5_extend 2 = .ok (.aload_n 2, 1) := by decide +kernel
theorem d_X5_extend_3 : decode cX5_extend 3 = .ok (.invokevirtual 15, 3) := by decide +kernel
theorem d_X5_extend_6 : decode cX5_extend 6 = .ok (.iconst 1, 1) := by decide +kernel
theorem d_X5_extend_7 : decode cX5_extend 7 = .ok (.istore_n 3, 1) := by decide +kernel
theorem d_X5_extend_8 : decode cX5_extend 8 = .ok (.aload_n 2, 1) := by decide +kernel
theorem d_X5_extend_9 : decode cX5_extend 9 = .ok (.getfield 19, 3) := by decide +kernel
theorem d_X5_extend_12 : decode cX5_extend 12 = .ok (.istore 4, 2) := by decide +kernel
theorem d_X5_extend_14 : decode cX5_extend 14 = .ok (.iload 4, 2) := by decide +kernel
theorem d_X5_extend_16 : decode cX5_extend 16 = .ok (.sipush 240, 3) := by decide +kernel
theorem d_X5_extend_19 : decode cX5_extend 19 = .ok (.if_icmp .ge 20, 3) := by decide +kernel
theorem d_X5_extend_22 : decode cX5_extend 22 = .ok (.iload_n 3, 1) := by decide +kernel
theorem d_X5_extend_23 : decode cX5_extend 23 = .ok (.ifCond .eq 16, 3) := by decide +kernel
theorem d_X5_extend_26 : decode cX5_extend 26 = .ok (.aload_n 0, 1) := by decide +kernel
theorem d_X5_extend_27 : decode cX5_extend 27 = .ok (.aload_n 1, 1) := by decide +kernel
theorem d_X5_extend_28 : decode cX5_extend 28 = .ok (.aload_n 2, 1) := by decide +kernel
theorem d_X5_extend_29 : decode cX5_extend 29 = .ok (.invokevirtual 25, 3) := by decide +kernel
theorem d_X5_extend_32 : decode cX5_extend 32 = .ok (.istore_n 3, 1) := by decide +kernel
theorem d_X5_extend_33 : decode cX5_extend 33 = .ok (.iinc 4 1, 3) := by decide +kernel
theorem d_X5_extend_36 : decode cX5_extend 36 = .ok (.goto (-22), 3) := by decide +kernel
theorem d_X5_extend_39 : decode cX5_extend 39 = .ok (.return_, 1) := by decide +kernel
def f_X5_extend_39 (F : Nat) (a2 : Nat) (M : sm_M) : Option (sm_M) := some M
set_option maxRecDepth 100000 in
set_option maxHeartbeats 4000000 in
theorem j_X5_extend_39 {sk : List sm_Sh} (hx : sm_ext skX sk) (F : Nat) (a2 : Nat) (ha2 : sm_row sk a2) : ∀ (M : sm_M) (r : sm_M), f_X5_extend_39 F a2 M = some r → sm_J (md_X5_extend, 4, sk, .inl none, r) 39 [none, none, none, none, none] [] M := by
  intro   M r h
  unfold f_X5_extend_39 at h
  obtain rfl := Option.some.inj h
  exact sm_vret d_X5_extend_39 rfl rfl rfl
def f_X5_extend_14b (F : Nat) (a2 : Nat) (kb14 : Int32 → Int32 → sm_M → Option (sm_M)) (x3 : Int32) (x4 : Int32) (M : sm_M) : Option (sm_M) := if (240 : Int32) ≤ x4 then (f_X5_extend_39 F a2 M) else (if x3 = 0 then (f_X5_extend_39 F a2 M) else ((f_X5_extendByOne F a2 M).bind fun q3 => kb14 q3.1 (x4 + 1) q3.2))
set_option maxRecDepth 100000 in
set_option maxHeartbeats 4000000 in
theorem j_X5_extend_14b {sk : List sm_Sh} (hx : sm_ext skX sk) (F : Nat) (a2 : Nat) (ha2 : sm_row sk a2) (kb14 : Int32 → Int32 → sm_M → Option (sm_M)) (hkb14 : ∀ (x3 : Int32) (x4 : Int32) (M : sm_M) (r : sm_M), kb14 x3 x4 M = some r → sm_J (md_X5_extend, 4, sk, .inl none, r) 14 [some (.ref 62), some (.ref 1), some (.ref a2), some (.int x3), some (.int x4)] [] M) : ∀ (x3 : Int32) (x4 : Int32) (M : sm_M) (r : sm_M), f_X5_extend_14b F a2 kb14 x3 x4 M = some r → sm_J (md_X5_extend, 4, sk, .inl none, r) 14 [some (.ref 62), some (.ref 1), some (.ref a2), some (.int x3), some (.int x4)] [] M := by
  intro x3 x4  M r h
  unfold f_X5_extend_14b at h
  refine sm_iload (q := 16) d_X5_extend_14 rfl rfl ?_
  refine sm_sipush (q := 19) d_X5_extend_16 rfl cs_240 ?_
  refine sm_icmp_ge (q := 22) (t := 39) d_X5_extend_19 rfl rfl (fun c1 => ?_) (fun c1 => ?_)
  · replace h := sm_it c1 h
    refine sm_fg [0, 1, 2, 3, 4] ?_
    exact j_X5_extend_39 hx F a2 ha2 M _ h
  · replace h := sm_if c1 h
    refine sm_iload_n (q := 23) d_X5_extend_22 rfl rfl ?_
    refine sm_if_eq (q := 26) (t := 39) d_X5_extend_23 rfl rfl (fun c2 => ?_) (fun c2 => ?_)
    · replace h := sm_it c2 h
      refine sm_fg [0, 1, 2, 3, 4] ?_
      exact j_X5_extend_39 hx F a2 ha2 M _ h
    · replace h := sm_if c2 h
      refine sm_aload_n (q := 27) d_X5_extend_26 rfl rfl ?_
      refine sm_aload_n (q := 28) d_X5_extend_27 rfl rfl ?_
      refine sm_aload_n (q := 29) d_X5_extend_28 rfl rfl ?_
      obtain ⟨q3, e3, h⟩ := sm_bd h
      refine sm_callV (q := 32) (d' := 3) [] [.ref 1, .ref a2] d_X5_extend_29 rfl lk_X5_25 (hx sx_62) rfl rfl rfl (Nat.le_of_ble_eq_true rfl) (Nat.le_of_ble_eq_true rfl) (c_X5_extendByOne hx F a2 ha2 M _ e3) (st9 := [.int q3.1]) rfl ?_
      refine sm_istore_n (q := 33) (lt := [some (.ref 62), some (.ref 1), some (.ref a2), some (.int q3.1), some (.int x4)]) d_X5_extend_32 rfl (Nat.le_of_ble_eq_true rfl) rfl rfl ?_
      refine sm_iinc (q := 36) (v := (x4 + 1)) (lt := [some (.ref 62), some (.ref 1), some (.ref a2), some (.int q3.1), some (.int (x4 + 1))]) d_X5_extend_33 rfl rfl (ii_1 _) (Nat.le_of_ble_eq_true rfl) rfl rfl ?_
      refine sm_goto (t := 14) d_X5_extend_36 rfl ?_
      exact hkb14 q3.1 (x4 + 1) q3.2 _ h
def f_X5_extend_14 (F : Nat) (a2 : Nat) (n : Nat) : Int32 → Int32 → sm_M → Option (sm_M) := match n with
 | 0 => fun _ _ _ => none
 | n + 1 => f_X5_extend_14b F a2 (f_X5_extend_14 F a2 n)
theorem j_X5_extend_14 {sk : List sm_Sh} (hx : sm_ext skX sk) (F : Nat) (a2 : Nat) (ha2 : sm_row sk a2) : ∀ (n : Nat) (x3 : Int32) (x4 : Int32) (M : sm_M) (r : sm_M), f_X5_extend_14 F a2 n x3 x4 M = some r → sm_J (md_X5_extend, 4, sk, .inl none, r) 14 [some (.ref 62), some (.ref 1), some (.ref a2), some (.int x3), some (.int x4)] [] M := by
  intro n
  induction n with
  | zero => intro x3 x4  M r h; exact nomatch (show (none : Option (sm_M)) = some r from h)
  | succ n ih => exact j_X5_extend_14b hx F a2 ha2 (f_X5_extend_14 F a2 n) ih
def f_X5_extend (F : Nat) (a2 : Nat) (M : sm_M) : Option (sm_M) := (f_X5_markWindows F a2 M).bind fun q1 => f_X5_extend_14 F a2 F (1 : Int32) (q1.1 a2 1) q1
set_option maxRecDepth 100000 in
set_option maxHeartbeats 4000000 in
theorem j_X5_extend {sk : List sm_Sh} (hx : sm_ext skX sk) (F : Nat) (a2 : Nat) (ha2 : sm_row sk a2) : ∀ (M : sm_M) (r : sm_M), f_X5_extend F a2 M = some r → sm_J (md_X5_extend, 4, sk, .inl none, r) 0 [some (.ref 62), some (.ref 1), some (.ref a2), none, none] [] M := by
  intro   M r h
  unfold f_X5_extend at h
  refine sm_aload_n (q := 1) d_X5_extend_0 rfl rfl ?_
  refine sm_aload_n (q := 2) d_X5_extend_1 rfl rfl ?_
  refine sm_aload_n (q := 3) d_X5_extend_2 rfl rfl ?_
  obtain ⟨q1, e1, h⟩ := sm_bd h
  refine sm_callV (q := 6) (d' := 3) [] [.ref 1, .ref a2] d_X5_extend_3 rfl lk_X5_15 (hx sx_62) rfl rfl rfl (Nat.le_of_ble_eq_true rfl) (Nat.le_of_ble_eq_true rfl) (c_X5_markWindows hx F a2 ha2 M _ e1) (st9 := []) rfl ?_
  refine sm_iconst (q := 7) d_X5_extend_6 rfl ci_1 ?_
  refine sm_istore_n (q := 8) (lt := [some (.ref 62), some (.ref 1), some (.ref a2), some (.int (1 : Int32)), none]) d_X5_extend_7 rfl (Nat.le_of_ble_eq_true rfl) rfl rfl ?_
  refine sm_aload_n (q := 9) d_X5_extend_8 rfl rfl ?_
  refine sm_geti (q := 12) d_X5_extend_9 rfl fl_X5_19 ha2.1 rfl ?_
  refine sm_istore (q := 14) (lt := [some (.ref 62), some (.ref 1), some (.ref a2), some (.int (1 : Int32)), some (.int (q1.1 a2 1))]) d_X5_extend_12 rfl (Nat.le_of_ble_eq_true rfl) rfl rfl ?_
  exact j_X5_extend_14 hx F a2 ha2 F (1 : Int32) (q1.1 a2 1) q1 _ h
theorem c_X5_extend {sk : List sm_Sh} (hx : sm_ext skX sk) (F : Nat) (a2 : Nat) (ha2 : sm_row sk a2) (M : sm_M) (r : sm_M) (h : f_X5_extend F a2 M = some r) : sm_Ct yX5_extend md_X5_extend 4 sk [.ref 62, .ref 1, .ref a2] M (.inl none) r := sm_enter 2 pn_X5 rfl (Nat.le_of_ble_eq_true rfl) rfl (j_X5_extend hx F a2 ha2 M r h)
/-! UniversalCycles$Search.begin(LUniversalCycles$Family;)V -/
theorem d_X8_begin_0 : decode cX8_begin 0 = .ok (.aload_n 0, 1) := by decide +kernel
theorem d_X8_begin_1 : decode cX8_begin 1 = .ok (.aload_n 1, 1) := by decide +kernel
theorem d_X8_begin_2 : decode cX8_begin 2 = .ok (.getfield 45, 3) := by decide +kernel
theorem d_X8_begin_5 : decode cX8_begin 5 = .ok (.putfield 50, 3) := by decide +kernel
theorem d_X8_begin_8 : decode cX8_begin 8 = .ok (.aload_n 0, 1) := by decide +kernel
theorem d_X8_begin_9 : decode cX8_begin 9 = .ok (.getfield 12, 3) := by decide +kernel
theorem d_X8_begin_12 : decode cX8_begin 12 = .ok (.aload_n 1, 1) := by decide +kernel
theorem d_X8_begin_13 : decode cX8_begin 13 = .ok (.getfield 51, 3) := by decide +kernel
theorem d_X8_begin_16 : decode cX8_begin 16 = .ok (.getfield 55, 3) := by decide +kernel
theorem d_X8_begin_19 : decode cX8_begin 19 = .ok (.putfield 60, 3) := by decide +kernel
theorem d_X8_begin_22 : decode cX8_begin 22 = .ok (.aload_n 0, 1) := by decide +kernel
theorem d_X8_begin_23 : decode cX8_begin 23 = .ok (.aload_n 0, 1) := by decide +kernel
theorem d_X8_begin_24 : decode cX8_begin 24 = .ok (.getfield 12, 3) := by decide +kernel
theorem d_X8_begin_27 : decode cX8_begin 27 = .ok (.getfield 60, 3) := by decide +kernel
theorem d_X8_begin_30 : decode cX8_begin 30 = .ok (.iconst 1, 1) := by decide +kernel
theorem d_X8_begin_31 : decode cX8_begin 31 = .ok (.isub, 1) := by decide +kernel
theorem d_X8_begin_32 : decode cX8_begin 32 = .ok (.putfield 34, 3) := by decide +kernel
theorem d_X8_begin_35 : decode cX8_begin 35 = .ok (.aload_n 0, 1) := by decide +kernel
theorem d_X8_begin_36 : decode cX8_begin 36 = .ok (.getfield 12, 3) := by decide +kernel
theorem d_X8_begin_39 : decode cX8_begin 39 = .ok (.getfield 38, 3) := by decide +kernel
theorem d_X8_begin_42 : decode cX8_begin 42 = .ok (.iconst 0, 1) := by decide +kernel
theorem d_X8_begin_43 : decode cX8_begin 43 = .ok (.iconst 0, 1) := by decide +kernel
theorem d_X8_begin_44 : decode cX8_begin 44 = .ok (.iastore, 1) := by decide +kernel
theorem d_X8_begin_45 : decode cX8_begin 45 = .ok (.aload_n 0, 1) := by decide +kernel
theorem d_X8_begin_46 : decode cX8_begin 46 = .ok (.getfield 18, 3) := by decide +kernel
theorem d_X8_begin_49 : decode cX8_begin 49 = .ok (.iconst (-1), 1) := by decide +kernel
theorem d_X8_begin_50 : decode cX8_begin 50 = .ok (.invokestatic 61, 3) := by decide +kernel
theorem d_X8_begin_53 : decode cX8_begin 53 = .ok (.iconst 0, 1) := by decide +kernel
theorem d_X8_begin_54 : decode cX8_begin 54 = .ok (.istore_n 2, 1) := by decide +kernel
theorem d_X8_begin_55 : decode cX8_begin 55 = .ok (.iload_n 2, 1) := by decide +kernel
theorem d_X8_begin_56 : decode cX8_begin 56 = .ok (.aload_n 0, 1) := by decide +kernel
theorem d_X8_begin_57 : decode cX8_begin 57 = .ok (.getfield 12, 3) := by decide +kernel
theorem d_X8_begin_60 : decode cX8_begin 60 = .ok (.getfield 60, 3) := by decide +kernel
theorem d_X8_begin_63 : decode cX8_begin 63 = .ok (.if_icmp .ge 16, 3) := by decide +kernel
theorem d_X8_begin_66 : decode cX8_begin 66 = .ok (.aload_n 0, 1) := by decide +kernel
theorem d_X8_begin_67 : decode cX8_begin 67 = .ok (.getfield 22, 3) := by decide +kernel
theorem d_X8_begin_70 : decode cX8_begin 70 = .ok (.iload_n 2, 1) := by decide +kernel
theorem d_X8_begin_71 : decode cX8_begin 71 = .ok (.iconst 0, 1) := by decide +kernel
theorem d_X8_begin_72 : decode cX8_begin 72 = .ok (.bastore, 1) := by decide +kernel
theorem d_X8_begin_73 : decode cX8_begin 73 = .ok (.iinc 2 1, 3) := by decide +kernel
theorem d_X8_begin_76 : decode cX8_begin 76 = .ok (.goto (-21), 3) := by decide +kernel
theorem d_X8_begin_79 : decode cX8_begin 79 = .ok (.return_, 1) := by decide +kernel
def f_X8_begin_55b (F : Nat) (kb55 : Int32 → sm_M → Option (sm_M)) (x2 : Int32) (M : sm_M) : Option (sm_M) := if (M.1 58 1) ≤ x2 then (some M) else (sm_g (sm_ib x2 200) (kb55 (x2 + 1) ((sm_mi M 61 x2.toNatClampNeg (vp_nar .boolean (0 : Int32))))))
set_option maxRecDepth 100000 in
set_option maxHeartbeats 4000000 in
theorem j_X8_begin_55b {sk : List sm_Sh} (hx : sm_ext skX sk) (F : Nat) (kb55 : Int32 → sm_M → Option (sm_M)) (hkb55 : ∀ (x2 : Int32) (M : sm_M) (r : sm_M), kb55 x2 M = some r → sm_J (md_X8_begin, 1, sk, .inl none, r) 55 [some (.ref 57), none, some (.int x2)] [] M) : ∀ (x2 : Int32) (M : sm_M) (r : sm_M), f_X8_begin_55b F kb55 x2 M = some r → sm_J (md_X8_begin, 1, sk, .inl none, r) 55 [some (.ref 57), none, some (.int x2)] [] M := by
  intro x2  M r h
  unfold f_X8_begin_55b at h
  refine sm_iload_n (q := 56) d_X8_begin_55 rfl rfl ?_
  refine sm_aload_n (q := 57) d_X8_begin_56 rfl rfl ?_
  refine sm_getr (q := 60) d_X8_begin_57 rfl fl_X8_12 (hx sx_57) rfl ?_
  refine sm_geti (q := 63) d_X8_begin_60 rfl fl_X8_60 (hx sx_58) rfl ?_
  refine sm_icmp_ge (q := 66) (t := 79) d_X8_begin_63 rfl rfl (fun c1 => ?_) (fun c1 => ?_)
  · replace h := sm_it c1 h
    obtain rfl := Option.some.inj h
    exact sm_vret d_X8_begin_79 rfl rfl rfl
  · replace h := sm_if c1 h
    refine sm_aload_n (q := 67) d_X8_begin_66 rfl rfl ?_
    refine sm_getr (q := 70) d_X8_begin_67 rfl fl_X8_22 (hx sx_57) rfl ?_
    refine sm_iload_n (q := 71) d_X8_begin_70 rfl rfl ?_
    refine sm_iconst (q := 72) d_X8_begin_71 rfl ci_0 ?_
    obtain ⟨g2, h⟩ := sm_gt h
    refine sm_bastore (q := 73) d_X8_begin_72 rfl (hx sx_61) (sm_ib_of g2) ?_
    refine sm_iinc (q := 76) (v := (x2 + 1)) (lt := [some (.ref 57), none, some (.int (x2 + 1))]) d_X8_begin_73 rfl rfl (ii_1 _) (Nat.le_of_ble_eq_true rfl) rfl rfl ?_
    refine sm_goto (t := 55) d_X8_begin_76 rfl ?_
    exact hkb55 (x2 + 1) ((sm_mi M 61 x2.toNatClampNeg (vp_nar .boolean (0 : Int32)))) _ h
def f_X8_begin_55 (F : Nat) (n : Nat) : Int32 → sm_M → Option (sm_M) := match n with
 | 0 => fun _ _ => none
 | n + 1 => f_X8_begin_55b F (f_X8_begin_55 F n)
theorem j_X8_begin_55 {sk : List sm_Sh} (hx : sm_ext skX sk) (F : Nat) : ∀ (n : Nat) (x2 : Int32) (M : sm_M) (r : sm_M), f_X8_begin_55 F n x2 M = some r → sm_J (md_X8_begin, 1, sk, .inl none, r) 55 [some (.ref 57), none, some (.int x2)] [] M := by
  intro n
  induction n with
  | zero => intro x2  M r h; exact nomatch (show (none : Option (sm_M)) = some r from h)
  | succ n ih => exact j_X8_begin_55b hx F (f_X8_begin_55 F n) ih
def f_X8_begin (F : Nat) (M : sm_M) : Option (sm_M) := (f_J7_fill_53178 F 60 240 (-1 : Int32) (sm_mi (sm_mi (sm_mi (sm_mi M 57 3 (M.1 1 2)) 58 1 (((sm_mi M 57 3 (M.1 1 2))).1 2 2)) 57 4 ((((sm_mi (sm_mi M 57 3 (M.1 1 2)) 58 1 (((sm_mi M 57 3 (M.1 1 2))).1 2 2))).1 58 1) - (1 : Int32))) 59 (0 : Int32).toNatClampNeg (0 : Int32))).bind fun q1 => f_X8_begin_55 F F (0 : Int32) q1
set_option maxRecDepth 100000 in
set_option maxHeartbeats 4000000 in
theorem j_X8_begin {sk : List sm_Sh} (hx : sm_ext skX sk) (F : Nat) : ∀ (M : sm_M) (r : sm_M), f_X8_begin F M = some r → sm_J (md_X8_begin, 1, sk, .inl none, r) 0 [some (.ref 57), some (.ref 1), none] [] M := by
  intro   M r h
  unfold f_X8_begin at h
  refine sm_aload_n (q := 1) d_X8_begin_0 rfl rfl ?_
  refine sm_aload_n (q := 2) d_X8_begin_1 rfl rfl ?_
  refine sm_geti (q := 5) d_X8_begin_2 rfl fl_X8_45 (hx sx_1) rfl ?_
  refine sm_puti (q := 8) d_X8_begin_5 rfl fw_X8_50 (hx sx_57) rfl rfl rfl ?_
  refine sm_aload_n (q := 9) d_X8_begin_8 rfl rfl ?_
  refine sm_getr (q := 12) d_X8_begin_9 rfl fl_X8_12 (hx sx_57) rfl ?_
  refine sm_aload_n (q := 13) d_X8_begin_12 rfl rfl ?_
  refine sm_getr (q := 16) d_X8_begin_13 rfl fl_X8_51 (hx sx_1) rfl ?_
  refine sm_geti (q := 19) d_X8_begin_16 rfl fl_X8_55 (hx sx_2) rfl ?_
  refine sm_puti (q := 22) d_X8_begin_19 rfl fw_X8_60 (hx sx_58) rfl rfl rfl ?_
  refine sm_aload_n (q := 23) d_X8_begin_22 rfl rfl ?_
  refine sm_aload_n (q := 24) d_X8_begin_23 rfl rfl ?_
  refine sm_getr (q := 27) d_X8_begin_24 rfl fl_X8_12 (hx sx_57) rfl ?_
  refine sm_geti (q := 30) d_X8_begin_27 rfl fl_X8_60 (hx sx_58) rfl ?_
  refine sm_iconst (q := 31) d_X8_begin_30 rfl ci_1 ?_
  refine sm_isub (q := 32) d_X8_begin_31 rfl ?_
  refine sm_puti (q := 35) d_X8_begin_32 rfl fw_X8_34 (hx sx_57) rfl rfl rfl ?_
  refine sm_aload_n (q := 36) d_X8_begin_35 rfl rfl ?_
  refine sm_getr (q := 39) d_X8_begin_36 rfl fl_X8_12 (hx sx_57) rfl ?_
  refine sm_getr (q := 42) d_X8_begin_39 rfl fl_X8_38 (hx sx_58) rfl ?_
  refine sm_iconst (q := 43) d_X8_begin_42 rfl ci_0 ?_
  refine sm_iconst (q := 44) d_X8_begin_43 rfl ci_0 ?_
  refine sm_iastore (q := 45) d_X8_begin_44 rfl (hx sx_59) (sm_ib_of (by decide)) ?_
  refine sm_aload_n (q := 46) d_X8_begin_45 rfl rfl ?_
  refine sm_getr (q := 49) d_X8_begin_46 rfl fl_X8_18 (hx sx_57) rfl ?_
  refine sm_iconst (q := 50) d_X8_begin_49 rfl ci_m1 ?_
  obtain ⟨q1, e1, h⟩ := sm_bd h
  refine sm_callS (q := 53) (d' := 0) [] [.ref 60, .int (-1 : Int32)] d_X8_begin_50 rfl lk_X8_61 rfl (Nat.le_of_ble_eq_true rfl) (Nat.le_of_ble_eq_true rfl) (c_J7_fill_53178 hx F 60 240 (hx sx_60) (-1 : Int32) (sm_mi (sm_mi (sm_mi (sm_mi M 57 3 (M.1 1 2)) 58 1 (((sm_mi M 57 3 (M.1 1 2))).1 2 2)) 57 4 ((((sm_mi (sm_mi M 57 3 (M.1 1 2)) 58 1 (((sm_mi M 57 3 (M.1 1 2))).1 2 2))).1 58 1) - (1 : Int32))) 59 (0 : Int32).toNatClampNeg (0 : Int32)) _ e1) (st9 := []) rfl ?_
  refine sm_iconst (q := 54) d_X8_begin_53 rfl ci_0 ?_
  refine sm_istore_n (q := 55) (lt := [some (.ref 57), some (.ref 1), some (.int (0 : Int32))]) d_X8_begin_54 rfl (Nat.le_of_ble_eq_true rfl) rfl rfl ?_
  refine sm_fg [1] ?_
  exact j_X8_begin_55 hx F F (0 : Int32) q1 _ h
theorem c_X8_begin {sk : List sm_Sh} (hx : sm_ext skX sk) (F : Nat) (M : sm_M) (r : sm_M) (h : f_X8_begin F M = some r) : sm_Ct yX8_begin md_X8_begin 1 sk [.ref 57, .ref 1] M (.inl none) r := sm_enter 1 pn_X8 rfl (Nat.le_of_ble_eq_true rfl) rfl (j_X8_begin hx F M r h)
/-! UniversalCycles$Search.highestDecided(I)I -/
theorem d_X8_highestDecided_0 : decode cX8_highestDecided 0 = .ok (.iload_n 1, 1) := by decide +kernel
theorem d_X8_highestDecided_1 : decode cX8_highestDecided 1 = .ok (.aload_n 0, 1) := by decide +kernel
theorem d_X8_highestDecided_2 : decode cX8_highestDecided 2 = .ok (.getfield 34, 3) := by decide +kernel
theorem d_X8_highestDecided_5 : decode cX8_highestDecided 5 = .ok (.if_icmp .ne 10, 3) := by decide +kernel
theorem d_X8_highestDecided_8 : decode cX8_highestDecided 8 = .ok (.aload_n 0, 1) := by decide +kernel
theorem d_X8_highestDecided_9 : decode cX8_highestDecided 9 = .ok (.getfield 34, 3) := by decide +kernel
theorem d_X8_highestDecided_12 : decode cX8_highestDecided 12 = .ok (.goto 11, 3) := by decide +kernel
theorem d_X8_highestDecided_15 : decode cX8_highestDecided 15 = .ok (.iload_n 1, 1) := by decide +kernel
theorem d_X8_highestDecided_16 : decode cX8_highestDecided 16 = .ok (.aload_n 0, 1) := by decide +kernel
theorem d_X8_highestDecided_17 : decode cX8_highestDecided 17 = .ok (.getfield 50, 3) := by decide +kernel
theorem d_X8_highestDecided_20 : decode cX8_highestDecided 20 = .ok (.isub, 1) := by decide +kernel
theorem d_X8_highestDecided_21 : decode cX8_highestDecided 21 = .ok (.iconst 1, 1) := by decide +kernel
theorem d_X8_highestDecided_22 : decode cX8_highestDecided 22 = .ok (.iadd, 1) := by decide +kernel
theorem d_X8_highestDecided_23 : decode cX8_highestDecided 23 = .ok (.ireturn, 1) := by decide +kernel
def f_X8_highestDecided_23 (F : Nat) (y0 : Int32) (M : sm_M) : Option (Int32) := some y0
set_option maxRecDepth 100000 in
set_option maxHeartbeats 4000000 in
theorem j_X8_highestDecided_23 {sk : List sm_Sh} (hx : sm_ext skX sk) (F : Nat) : ∀ (y0 : Int32) (M : sm_M) (r : Int32), f_X8_highestDecided_23 F y0 M = some r → sm_J (md_X8_highestDecided, 0, sk, .inl (some (.int r)), M) 23 [none, none] [.int y0] M := by
  intro y0  M r h
  unfold f_X8_highestDecided_23 at h
  obtain rfl := Option.some.inj h
  exact sm_iret d_X8_highestDecided_23 rfl rfl rfl rfl
def f_X8_highestDecided (F : Nat) (x1 : Int32) (M : sm_M) : Option (Int32) := if x1 = (M.1 57 4) then (f_X8_highestDecided_23 F (M.1 57 4) M) else (f_X8_highestDecided_23 F ((x1 - (M.1 57 3)) + (1 : Int32)) M)
set_option maxRecDepth 100000 in
set_option maxHeartbeats 4000000 in
theorem j_X8_highestDecided {sk : List sm_Sh} (hx : sm_ext skX sk) (F : Nat) : ∀ (x1 : Int32) (M : sm_M) (r : Int32), f_X8_highestDecided F x1 M = some r → sm_J (md_X8_highestDecided, 0, sk, .inl (some (.int r)), M) 0 [some (.ref 57), some (.int x1)] [] M := by
  intro x1  M r h
  unfold f_X8_highestDecided at h
  refine sm_iload_n (q := 1) d_X8_highestDecided_0 rfl rfl ?_
  refine sm_aload_n (q := 2) d_X8_highestDecided_1 rfl rfl ?_
  refine sm_geti (q := 5) d_X8_highestDecided_2 rfl fl_X8_34 (hx sx_57) rfl ?_
  refine sm_icmp_ne (q := 8) (t := 15) d_X8_highestDecided_5 rfl rfl (fun c1 => ?_) (fun c1 => ?_)
  · replace h := sm_if c1 h
    refine sm_iload_n (q := 16) d_X8_highestDecided_15 rfl rfl ?_
    refine sm_aload_n (q := 17) d_X8_highestDecided_16 rfl rfl ?_
    refine sm_geti (q := 20) d_X8_highestDecided_17 rfl fl_X8_50 (hx sx_57) rfl ?_
    refine sm_isub (q := 21) d_X8_highestDecided_20 rfl ?_
    refine sm_iconst (q := 22) d_X8_highestDecided_21 rfl ci_1 ?_
    refine sm_iadd (q := 23) d_X8_highestDecided_22 rfl ?_
    refine sm_fg [0, 1] ?_
    exact j_X8_highestDecided_23 hx F ((x1 - (M.1 57 3)) + (1 : Int32)) M _ h
  · replace h := sm_it c1 h
    refine sm_aload_n (q := 9) d_X8_highestDecided_8 rfl rfl ?_
    refine sm_geti (q := 12) d_X8_highestDecided_9 rfl fl_X8_34 (hx sx_57) rfl ?_
    refine sm_goto (t := 23) d_X8_highestDecided_12 rfl ?_
    refine sm_fg [0, 1] ?_
    exact j_X8_highestDecided_23 hx F (M.1 57 4) M _ h
theorem c_X8_highestDecided {sk : List sm_Sh} (hx : sm_ext skX sk) (F : Nat) (x1 : Int32) (M : sm_M) (r : Int32) (h : f_X8_highestDecided F x1 M = some r) : sm_Ct yX8_highestDecided md_X8_highestDecided 0 sk [.ref 57, .int x1] M (.inl (some (.int r))) M := sm_enter 0 pn_X8 rfl (Nat.le_of_ble_eq_true rfl) rfl (j_X8_highestDecided hx F x1 M r h)
/-! UniversalCycles$Search.lowestDecided(I)I -/
theorem d_X8_lowestDecided_0 : decode cX8_lowestDecided 0 = .ok (.iload_n 1, 1) := by decide +kernel
theorem d_X8_lowestDecided_1 : decode cX8_lowestDecided 1 = .ok (.aload_n 0, 1) := by decide +kernel
theorem d_X8_lowestDecided_2 : decode cX8_lowestDecided 2 = .ok (.getfield 50, 3) := by decide +kernel
theorem d_X8_lowestDecided_5 : decode cX8_lowestDecided 5 = .ok (.isub, 1) := by decide +kernel
theorem d_X8_lowestDecided_6 : decode cX8_lowestDecided 6 = .ok (.iconst 1, 1) := by decide +kernel
theorem d_X8_lowestDecided_7 : decode cX8_lowestDecided 7 = .ok (.iadd, 1) := by decide +kernel
theorem d_X8_lowestDecided_8 : decode cX8_lowestDecided 8 = .ok (.iconst 0, 1) := by decide +kernel
theorem d_X8_lowestDecided_9 : decode cX8_lowestDecided 9 = .ok (.invokestatic 67, 3) := by decide +kernel
theorem d_X8_lowestDecided_12 : decode cX8_lowestDecided 12 = .ok (.ireturn, 1) := by decide +kernel
def f_X8_lowestDecided (F : Nat) (x1 : Int32) (M : sm_M) : Option (Int32) := some (if ((x1 - (M.1 57 3)) + (1 : Int32)) < (0 : Int32) then (0 : Int32) else ((x1 - (M.1 57 3)) + (1 : Int32)))
set_option maxRecDepth 100000 in
set_option maxHeartbeats 4000000 in
theorem j_X8_lowestDecided {sk : List sm_Sh} (hx : sm_ext skX sk) (F : Nat) : ∀ (x1 : Int32) (M : sm_M) (r : Int32), f_X8_lowestDecided F x1 M = some r → sm_J (md_X8_lowestDecided, 1, sk, .inl (some (.int r)), M) 0 [some (.ref 57), some (.int x1)] [] M := by
  intro x1  M r h
  unfold f_X8_lowestDecided at h
  refine sm_iload_n (q := 1) d_X8_lowestDecided_0 rfl rfl ?_
  refine sm_aload_n (q := 2) d_X8_lowestDecided_1 rfl rfl ?_
  refine sm_geti (q := 5) d_X8_lowestDecided_2 rfl fl_X8_50 (hx sx_57) rfl ?_
  refine sm_isub (q := 6) d_X8_lowestDecided_5 rfl ?_
  refine sm_iconst (q := 7) d_X8_lowestDecided_6 rfl ci_1 ?_
  refine sm_iadd (q := 8) d_X8_lowestDecided_7 rfl ?_
  refine sm_iconst (q := 9) d_X8_lowestDecided_8 rfl ci_0 ?_
  refine sm_mmax (q := 12) d_X8_lowestDecided_9 rfl lk_X8_67 (Nat.le_of_ble_eq_true rfl) (Nat.le_of_ble_eq_true rfl) ?_
  obtain rfl := Option.some.inj h
  exact sm_iret d_X8_lowestDecided_12 rfl rfl rfl rfl
theorem c_X8_lowestDecided {sk : List sm_Sh} (hx : sm_ext skX sk) (F : Nat) (x1 : Int32) (M : sm_M) (r : Int32) (h : f_X8_lowestDecided F x1 M = some r) : sm_Ct yX8_lowestDecided md_X8_lowestDecided 1 sk [.ref 57, .int x1] M (.inl (some (.int r))) M := sm_enter 0 pn_X8 rfl (Nat.le_of_ble_eq_true rfl) rfl (j_X8_lowestDecided hx F x1 M r h)
/-! UniversalCycles$Search.claimWindows(LUniversalCycles$Family;I)Z -/
theorem d_X8_claimWindows_0 : decode cX8_claimWindows 0 = .ok (.aload_n 0, 1) := by decide +kernel
theorem d_X8_claimWindows_1 : decode cX8_claimWindows 1 = .ok (.iload_n 2, 1) := by decide +kernel
theorem d_X8_claimWindows_2 : decode cX8_claimWindows 2 = .ok (.invokevirtual 73, 3) := by decide +kernel
theorem d_X8_claimWindows_5 : decode cX8_claimWindows 5 = .ok (.istore_n 3, 1) := by decide +kernel
theorem d_X8_claimWindows_6 : decode cX8_claimWindows 6 = .ok (.aload_n 0, 1) := by decide +kernel
theorem d_X8_claimWindows_7 : decode cX8_claimWindows 7 = .ok (.iload_n 2, 1) := by decide +kernel
theorem d_X8_claimWindows_8 : decode cX8_claimWindows 8 = .ok (.invokevirtual 77, 3) := by decide +kernel
theorem d_X8_claimWindows_11 : decode cX8_claimWindows 11 = .ok (.istore 4, 2) := by decide +kernel
theorem d_X8_claimWindows_13 : decode cX8_claimWindows 13 = .ok (.iload 4, 2) := by decide +kernel
theorem d_X8_claimWindows_15 : decode cX8_claimWindows 15 = .ok (.iload_n 3, 1) := by decide +kernel
theorem d_X8_claimWindows_16 : decode cX8_claimWindows 16 = .ok (.if_icmp .gt 56, 3) := by decide +kernel
theorem d_X8_claimWindows_19 : decode cX8_claimWindows 19 = .ok (.aload_n 1, 1) := by decide +kernel
theorem d_X8_claimWindows_20 : decode cX8_claimWindows 20 = .ok (.aload_n 0, 1) := by decide +kernel
theorem d_X8_claimWindows_21 : decode cX8_claimWindows 21 = .ok (.getfield 12, 3) := by decide +kernel
theorem d_X8_claimWindows_24 : decode cX8_claimWindows 24 = .ok (.iload 4, 2) := by decide +kernel
theorem d_X8_claimWindows_26 : decode cX8_claimWindows 26 = .ok (.invokevirtual 80, 3) := by decide +kernel
theorem d_X8_claimWindows_29 : decode cX8_claimWindows 29 = .ok (.istore 5, 2) := by decide +kernel
theorem d_X8_claimWindows_31 : decode cX8_claimWindows 31 = .ok (.iload 5, 2) := by decide +kernel
theorem d_X8_claimWindows_33 : decode cX8_claimWindows 33 = .ok (.iconst (-1), 1) := by decide +kernel
theorem d_X8_claimWindows_34 : decode cX8_claimWindows 34 = .ok (.if_icmp .eq 13, 3) := by decide +kernel
theorem d_X8_claimWindows_37 : decode cX8_claimWindows 37 = .ok (.aload_n 0, 1) := by decide +kernel
theorem d_X8_claimWindows_38 : decode cX8_claimWindows 38 = .ok (.getfield 22, 3) := by decide +kernel
theorem d_X8_claimWindows_41 : decode cX8_claimWindows 41 = .ok (.iload 5, 2) := by decide +kernel
theorem d_X8_claimWindows_43 : decode cX8_claimWindows 43 = .ok (.baload, 1) := by decide +kernel
theorem d_X8_claimWindows_44 : decode cX8_claimWindows 44 = .ok (.ifCond .eq 5, 3) := by decide +kernel
theorem d_X8_claimWindows_47 : decode cX8_claimWindows 47 = .ok (.iconst 0, 1) := by decide +kernel
theorem d_X8_claimWindows_48 : decode cX8_claimWindows 48 = .ok (.ireturn, 1) := by decide +kernel
theorem d_X8_claimWindows_49 : decode cX8_claimWindows 49 = .ok (.aload_n 0, 1) := by decide +kernel
theorem d_X8_claimWindows_50 : decode cX8_claimWindows 50 = .ok (.getfield 22, 3) := by decide +kernel
theorem d_X8_claimWindows_53 : decode cX8_claimWindows 53 = .ok (.iload 5, 2) := by decide +kernel
theorem d_X8_claimWindows_55 : decode cX8_claimWindows 55 = .ok (.iconst 1, 1) := by decide +kernel
theorem d_X8_claimWindows_56 : decode cX8_claimWindows 56 = .ok (.bastore, 1) := by decide +kernel
theorem d_X8_claimWindows_57 : decode cX8_claimWindows 57 = .ok (.aload_n 0, 1) := by decide +kernel
theorem d_X8_claimWindows_58 : decode cX8_claimWindows 58 = .ok (.getfield 18, 3) := by decide +kernel
theorem d_X8_claimWindows_61 : decode cX8_claimWindows 61 = .ok (.iload 4, 2) := by decide +kernel
theorem d_X8_claimWindows_63 : decode cX8_claimWindows 63 = .ok (.iload 5, 2) := by decide +kernel
theorem d_X8_claimWindows_65 : decode cX8_claimWindows 65 = .ok (.iastore, 1) := by decide +kernel
theorem d_X8_claimWindows_66 : decode cX8_claimWindows 66 = .ok (.iinc 4 1, 3) := by decide +kernel
theorem d_X8_claimWindows_69 : decode cX8_claimWindows 69 = .ok (.goto (-56), 3) := by decide +kernel
theorem d_X8_claimWindows_72 : decode cX8_claimWindows 72 = .ok (.iconst 1, 1) := by decide +kernel
theorem d_X8_claimWindows_73 : decode cX8_claimWindows 73 = .ok (.ireturn, 1) := by decide +kernel
def f_X8_claimWindows_47 (F : Nat) (M : sm_M) : Option (Int32 × sm_M) := some ((0 : Int32), M)
set_option maxRecDepth 100000 in
set_option maxHeartbeats 4000000 in
theorem j_X8_claimWindows_47 {sk : List sm_Sh} (hx : sm_ext skX sk) (F : Nat) : ∀ (M : sm_M) (r : Int32 × sm_M), f_X8_claimWindows_47 F M = some r → sm_J (md_X8_claimWindows, 3, sk, .inl (some (.int r.1)), r.2) 47 [none, none, none, none, none, none] [] M := by
  intro   M r h
  unfold f_X8_claimWindows_47 at h
  refine sm_iconst (q := 48) d_X8_claimWindows_47 rfl ci_0 ?_
  obtain rfl := Option.some.inj h
  exact sm_iret d_X8_claimWindows_48 rfl (by decide) rfl rfl
def f_X8_claimWindows_13b (F : Nat) (kb13 : Int32 → Int32 → sm_M → Option (Int32 × sm_M)) (x3 : Int32) (x4 : Int32) (M : sm_M) : Option (Int32 × sm_M) := if x3 < x4 then (some ((1 : Int32), M)) else ((f_X2_shownBy F 58 x4 M).bind fun q2 => if q2 = (-1 : Int32) then (f_X8_claimWindows_47 F M) else (sm_g (sm_ib q2 200) (if (M.1 61 q2.toNatClampNeg) = 0 then (sm_g (sm_ib q2 200) (sm_g (sm_ib x4 240) (kb13 x3 (x4 + 1) ((sm_mi (sm_mi M 61 q2.toNatClampNeg (vp_nar .boolean (1 : Int32))) 60 x4.toNatClampNeg q2))))) else (f_X8_claimWindows_47 F M))))
set_option maxRecDepth 100000 in
set_option maxHeartbeats 4000000 in
theorem j_X8_claimWindows_13b {sk : List sm_Sh} (hx : sm_ext skX sk) (F : Nat) (kb13 : Int32 → Int32 → sm_M → Option (Int32 × sm_M)) (hkb13 : ∀ (x3 : Int32) (x4 : Int32) (M : sm_M) (r : Int32 × sm_M), kb13 x3 x4 M = some r → sm_J (md_X8_claimWindows, 3, sk, .inl (some (.int r.1)), r.2) 13 [some (.ref 57), some (.ref 1), none, some (.int x3), some (.int x4), none] [] M) : ∀ (x3 : Int32) (x4 : Int32) (M : sm_M) (r : Int32 × sm_M), f_X8_claimWindows_13b F kb13 x3 x4 M = some r → sm_J (md_X8_claimWindows, 3, sk, .inl (some (.int r.1)), r.2) 13 [some (.ref 57), some (.ref 1), none, some (.int x3), some (.int x4), none] [] M := by
  intro x3 x4  M r h
  unfold f_X8_claimWindows_13b at h
  refine sm_iload (q := 15) d_X8_claimWindows_13 rfl rfl ?_
  refine sm_iload_n (q := 16) d_X8_claimWindows_15 rfl rfl ?_
  refine sm_icmp_gt (q := 19) (t := 72) d_X8_claimWindows_16 rfl rfl (fun c1 => ?_) (fun c1 => ?_)
  · replace h := sm_it c1 h
    refine sm_iconst (q := 73) d_X8_claimWindows_72 rfl ci_1 ?_
    obtain rfl := Option.some.inj h
    exact sm_iret d_X8_claimWindows_73 rfl (by decide) rfl rfl
  · replace h := sm_if c1 h
    refine sm_aload_n (q := 20) d_X8_claimWindows_19 rfl rfl ?_
    refine sm_aload_n (q := 21) d_X8_claimWindows_20 rfl rfl ?_
    refine sm_getr (q := 24) d_X8_claimWindows_21 rfl fl_X8_12 (hx sx_57) rfl ?_
    refine sm_iload (q := 26) d_X8_claimWindows_24 rfl rfl ?_
    obtain ⟨q2, e2, h⟩ := sm_bd h
    refine sm_callV (q := 29) (d' := 2) [] [.ref 58, .int x4] d_X8_claimWindows_26 rfl lk_X8_80 (hx sx_1) rfl rfl rfl (Nat.le_of_ble_eq_true rfl) (Nat.le_of_ble_eq_true rfl) (c_X2_shownBy hx F 58 ⟨hx sx_58, hx sx_59⟩ x4 M _ e2) (st9 := [.int q2]) rfl ?_
    refine sm_istore (q := 31) (lt := [some (.ref 57), some (.ref 1), none, some (.int x3), some (.int x4), some (.int q2)]) d_X8_claimWindows_29 rfl (Nat.le_of_ble_eq_true rfl) rfl rfl ?_
    refine sm_iload (q := 33) d_X8_claimWindows_31 rfl rfl ?_
    refine sm_iconst (q := 34) d_X8_claimWindows_33 rfl ci_m1 ?_
    refine sm_icmp_eq (q := 37) (t := 47) d_X8_claimWindows_34 rfl rfl (fun c3 => ?_) (fun c3 => ?_)
    · replace h := sm_it c3 h
      refine sm_fg [0, 1, 3, 4, 5] ?_
      exact j_X8_claimWindows_47 hx F M _ h
    · replace h := sm_if c3 h
      refine sm_aload_n (q := 38) d_X8_claimWindows_37 rfl rfl ?_
      refine sm_getr (q := 41) d_X8_claimWindows_38 rfl fl_X8_22 (hx sx_57) rfl ?_
      refine sm_iload (q := 43) d_X8_claimWindows_41 rfl rfl ?_
      obtain ⟨g4, h⟩ := sm_gt h
      refine sm_baload (q := 44) d_X8_claimWindows_43 rfl (hx sx_61) (sm_ib_of g4) ?_
      refine sm_if_eq (q := 47) (t := 49) d_X8_claimWindows_44 rfl rfl (fun c5 => ?_) (fun c5 => ?_)
      · replace h := sm_it c5 h
        refine sm_aload_n (q := 50) d_X8_claimWindows_49 rfl rfl ?_
        refine sm_getr (q := 53) d_X8_claimWindows_50 rfl fl_X8_22 (hx sx_57) rfl ?_
        refine sm_iload (q := 55) d_X8_claimWindows_53 rfl rfl ?_
        refine sm_iconst (q := 56) d_X8_claimWindows_55 rfl ci_1 ?_
        obtain ⟨g6, h⟩ := sm_gt h
        refine sm_bastore (q := 57) d_X8_claimWindows_56 rfl (hx sx_61) (sm_ib_of g6) ?_
        refine sm_aload_n (q := 58) d_X8_claimWindows_57 rfl rfl ?_
        refine sm_getr (q := 61) d_X8_claimWindows_58 rfl fl_X8_18 (hx sx_57) rfl ?_
        refine sm_iload (q := 63) d_X8_claimWindows_61 rfl rfl ?_
        refine sm_iload (q := 65) d_X8_claimWindows_63 rfl rfl ?_
        obtain ⟨g7, h⟩ := sm_gt h
        refine sm_iastore (q := 66) d_X8_claimWindows_65 rfl (hx sx_60) (sm_ib_of g7) ?_
        refine sm_iinc (q := 69) (v := (x4 + 1)) (lt := [some (.ref 57), some (.ref 1), none, some (.int x3), some (.int (x4 + 1)), some (.int q2)]) d_X8_claimWindows_66 rfl rfl (ii_1 _) (Nat.le_of_ble_eq_true rfl) rfl rfl ?_
        refine sm_goto (t := 13) d_X8_claimWindows_69 rfl ?_
        refine sm_fg [5] ?_
        exact hkb13 x3 (x4 + 1) ((sm_mi (sm_mi M 61 q2.toNatClampNeg (vp_nar .boolean (1 : Int32))) 60 x4.toNatClampNeg q2)) _ h
      · replace h := sm_if c5 h
        refine sm_fg [0, 1, 3, 4, 5] ?_
        exact j_X8_claimWindows_47 hx F M _ h
def f_X8_claimWindows_13 (F : Nat) (n : Nat) : Int32 → Int32 → sm_M → Option (Int32 × sm_M) := match n with
 | 0 => fun _ _ _ => none
 | n + 1 => f_X8_claimWindows_13b F (f_X8_claimWindows_13 F n)
theorem j_X8_claimWindows_13 {sk : List sm_Sh} (hx : sm_ext skX sk) (F : Nat) : ∀ (n : Nat) (x3 : Int32) (x4 : Int32) (M : sm_M) (r : Int32 × sm_M), f_X8_claimWindows_13 F n x3 x4 M = some r → sm_J (md_X8_claimWindows, 3, sk, .inl (some (.int r.1)), r.2) 13 [some (.ref 57), some (.ref 1), none, some (.int x3), some (.int x4), none] [] M := by
  intro n
  induction n with
  | zero => intro x3 x4  M r h; exact nomatch (show (none : Option (Int32 × sm_M)) = some r from h)
  | succ n ih => exact j_X8_claimWindows_13b hx F (f_X8_claimWindows_13 F n) ih
def f_X8_claimWindows (F : Nat) (x2 : Int32) (M : sm_M) : Option (Int32 × sm_M) := (f_X8_highestDecided F x2 M).bind fun q1 => (f_X8_lowestDecided F x2 M).bind fun q2 => f_X8_claimWindows_13 F F q1 q2 M
set_option maxRecDepth 100000 in
set_option maxHeartbeats 4000000 in
theorem j_X8_claimWindows {sk : List sm_Sh} (hx : sm_ext skX sk) (F : Nat) : ∀ (x2 : Int32) (M : sm_M) (r : Int32 × sm_M), f_X8_claimWindows F x2 M = some r → sm_J (md_X8_claimWindows, 3, sk, .inl (some (.int r.1)), r.2) 0 [some (.ref 57), some (.ref 1), some (.int x2), none, none, none] [] M := by
  intro x2  M r h
  unfold f_X8_claimWindows at h
  refine sm_aload_n (q := 1) d_X8_claimWindows_0 rfl rfl ?_
  refine sm_iload_n (q := 2) d_X8_claimWindows_1 rfl rfl ?_
  obtain ⟨q1, e1, h⟩ := sm_bd h
  refine sm_callV (q := 5) (d' := 0) [] [.int x2] d_X8_claimWindows_2 rfl lk_X8_73 (hx sx_57) rfl rfl rfl (Nat.le_of_ble_eq_true rfl) (Nat.le_of_ble_eq_true rfl) (c_X8_highestDecided hx F x2 M _ e1) (st9 := [.int q1]) rfl ?_
  refine sm_istore_n (q := 6) (lt := [some (.ref 57), some (.ref 1), some (.int x2), some (.int q1), none, none]) d_X8_claimWindows_5 rfl (Nat.le_of_ble_eq_true rfl) rfl rfl ?_
  refine sm_aload_n (q := 7) d_X8_claimWindows_6 rfl rfl ?_
  refine sm_iload_n (q := 8) d_X8_claimWindows_7 rfl rfl ?_
  obtain ⟨q2, e2, h⟩ := sm_bd h
  refine sm_callV (q := 11) (d' := 1) [] [.int x2] d_X8_claimWindows_8 rfl lk_X8_77 (hx sx_57) rfl rfl rfl (Nat.le_of_ble_eq_true rfl) (Nat.le_of_ble_eq_true rfl) (c_X8_lowestDecided hx F x2 M _ e2) (st9 := [.int q2]) rfl ?_
  refine sm_istore (q := 13) (lt := [some (.ref 57), some (.ref 1), some (.int x2), some (.int q1), some (.int q2), none]) d_X8_claimWindows_11 rfl (Nat.le_of_ble_eq_true rfl) rfl rfl ?_
  refine sm_fg [2] ?_
  exact j_X8_claimWindows_13 hx F F q1 q2 M _ h
theorem c_X8_claimWindows {sk : List sm_Sh} (hx : sm_ext skX sk) (F : Nat) (x2 : Int32) (M : sm_M) (r : Int32 × sm_M) (h : f_X8_claimWindows F x2 M = some r) : sm_Ct yX8_claimWindows md_X8_claimWindows 3 sk [.ref 57, .ref 1, .int x2] M (.inl (some (.int r.1))) r.2 := sm_enter 3 pn_X8 rfl (Nat.le_of_ble_eq_true rfl) rfl (j_X8_claimWindows hx F x2 M r h)
/-! UniversalCycles$Search.releaseWindows(I)V -/
theorem d_X8_releaseWindows_0 : decode cX8_releaseWindows 0 = .ok (.aload_n 0, 1) := by decide +kernel
theorem d_X8_releaseWindows_1 : decode cX8_releaseWindows 1 = .ok (.iload_n 1, 1) := by decide +kernel
theorem d_X8_releaseWindows_2 : decode cX8_releaseWindows 2 = .ok (.invokevirtual 73, 3) := by decide +kernel
theorem d_X8_releaseWindows_5 : decode cX8_releaseWindows 5 = .ok (.istore_n 2, 1) := by decide +kernel
theorem d_X8_releaseWindows_6 : decode cX8_releaseWindows 6 = .ok (.aload_n 0, 1) := by decide +kernel
theorem d_X8_releaseWindows_7 : decode cX8_releaseWindows 7 = .ok (.iload_n 1, 1) := by decide +kernel
theorem d_X8_releaseWindows_8 : decode cX8_releaseWindows 8 = .ok (.invokevirtual 77, 3) := by decide +kernel
theorem d_X8_releaseWindows_11 : decode cX8_releaseWindows 11 = .ok (.istore_n 3, 1) := by decide +kernel
theorem d_X8_releaseWindows_12 : decode cX8_releaseWindows 12 = .ok (.iload_n 3, 1) := by decide +kernel
theorem d_X8_releaseWindows_13 : decode cX8_releaseWindows 13 = .ok (.iload_n 2, 1) := by decide +kernel
theorem d_X8_releaseWindows_14 : decode cX8_releaseWindows 14 = .ok (.if_icmp .gt 38, 3) := by decide +kernel
theorem d_X8_releaseWindows_17 : decode cX8_releaseWindows 17 = .ok (.aload_n 0, 1) := by decide +kernel
theorem d_X8_releaseWindows_18 : decode cX8_releaseWindows 18 = .ok (.getfield 18, 3) := by decide +kernel
theorem d_X8_releaseWindows_21 : decode cX8_releaseWindows 21 = .ok (.iload_n 3, 1) := by decide +kernel
theorem d_X8_releaseWindows_22 : decode cX8_releaseWindows 22 = .ok (.iaload, 1) := by decide +kernel
theorem d_X8_releaseWindows_23 : decode cX8_releaseWindows 23 = .ok (.istore 4, 2) := by decide +kernel
theorem d_X8_releaseWindows_25 : decode cX8_releaseWindows 25 = .ok (.iload 4, 2) := by decide +kernel
theorem d_X8_releaseWindows_27 : decode cX8_releaseWindows 27 = .ok (.iconst (-1), 1) := by decide +kernel
theorem d_X8_releaseWindows_28 : decode cX8_releaseWindows 28 = .ok (.if_icmp .eq 18, 3) := by decide +kernel
theorem d_X8_releaseWindows_31 : decode cX8_releaseWindows 31 = .ok (.aload_n 0, 1) := by decide +kernel
theorem d_X8_releaseWindows_32 : decode cX8_releaseWindows 32 = .ok (.getfield 22, 3) := by decide +kernel
theorem d_X8_releaseWindows_35 : decode cX8_releaseWindows 35 = .ok (.iload 4, 2) := by decide +kernel
theorem d_X8_releaseWindows_37 : decode cX8_releaseWindows 37 = .ok (.iconst 0, 1) := by decide +kernel
theorem d_X8_releaseWindows_38 : decode cX8_releaseWindows 38 = .ok (.bastore, 1) := by decide +kernel
theorem d_X8_releaseWindows_39 : decode cX8_releaseWindows 39 = .ok (.aload_n 0, 1) := by decide +kernel
theorem d_X8_releaseWindows_40 : decode cX8_releaseWindows 40 = .ok (.getfield 18, 3) := by decide +kernel
theorem d_X8_releaseWindows_43 : decode cX8_releaseWindows 43 = .ok (.iload_n 3, 1) := by decide +kernel
theorem d_X8_releaseWindows_44 : decode cX8_releaseWindows 44 = .ok (.iconst (-1), 1) := by decide +kernel
theorem d_X8_releaseWindows_45 : decode cX8_releaseWindows 45 = .ok (.iastore, 1) := by decide +kernel
theorem d_X8_releaseWindows_46 : decode cX8_releaseWindows 46 = .ok (.iinc 3 1, 3) := by decide +kernel
theorem d_X8_releaseWindows_49 : decode cX8_releaseWindows 49 = .ok (.goto (-37), 3) := by decide +kernel
theorem d_X8_releaseWindows_52 : decode cX8_releaseWindows 52 = .ok (.return_, 1) := by decide +kernel
def f_X8_releaseWindows_46 (F : Nat) (kb12 : Int32 → Int32 → sm_M → Option (sm_M)) (x2 : Int32) (x3 : Int32) (M : sm_M) : Option (sm_M) := kb12 x2 (x3 + 1) M
set_option maxRecDepth 100000 in
set_option maxHeartbeats 4000000 in
theorem j_X8_releaseWindows_46 {sk : List sm_Sh} (hx : sm_ext skX sk) (F : Nat) (kb12 : Int32 → Int32 → sm_M → Option (sm_M)) (hkb12 : ∀ (x2 : Int32) (x3 : Int32) (M : sm_M) (r : sm_M), kb12 x2 x3 M = some r → sm_J (md_X8_releaseWindows, 2, sk, .inl none, r) 12 [some (.ref 57), none, some (.int x2), some (.int x3), none] [] M) : ∀ (x2 : Int32) (x3 : Int32) (M : sm_M) (r : sm_M), f_X8_releaseWindows_46 F kb12 x2 x3 M = some r → sm_J (md_X8_releaseWindows, 2, sk, .inl none, r) 46 [some (.ref 57), none, some (.int x2), some (.int x3), none] [] M := by
  intro x2 x3  M r h
  unfold f_X8_releaseWindows_46 at h
  refine sm_iinc (q := 49) (v := (x3 + 1)) (lt := [some (.ref 57), none, some (.int x2), some (.int (x3 + 1)), none]) d_X8_releaseWindows_46 rfl rfl (ii_1 _) (Nat.le_of_ble_eq_true rfl) rfl rfl ?_
  refine sm_goto (t := 12) d_X8_releaseWindows_49 rfl ?_
  exact hkb12 x2 (x3 + 1) M _ h
def f_X8_releaseWindows_12b (F : Nat) (kb12 : Int32 → Int32 → sm_M → Option (sm_M)) (x2 : Int32) (x3 : Int32) (M : sm_M) : Option (sm_M) := if x2 < x3 then (some M) else (sm_g (sm_ib x3 240) (if (M.1 60 x3.toNatClampNeg) = (-1 : Int32) then (f_X8_releaseWindows_46 F kb12 x2 x3 M) else (sm_g (sm_ib (M.1 60 x3.toNatClampNeg) 200) (sm_g (sm_ib x3 240) (f_X8_releaseWindows_46 F kb12 x2 x3 ((sm_mi (sm_mi M 61 (M.1 60 x3.toNatClampNeg).toNatClampNeg (vp_nar .boolean (0 : Int32))) 60 x3.toNatClampNeg (-1 : Int32))))))))
set_option maxRecDepth 100000 in
set_option maxHeartbeats 4000000 in
theorem j_X8_releaseWindows_12b {sk : List sm_Sh} (hx : sm_ext skX sk) (F : Nat) (kb12 : Int32 → Int32 → sm_M → Option (sm_M)) (hkb12 : ∀ (x2 : Int32) (x3 : Int32) (M : sm_M) (r : sm_M), kb12 x2 x3 M = some r → sm_J (md_X8_releaseWindows, 2, sk, .inl none, r) 12 [some (.ref 57), none, some (.int x2), some (.int x3), none] [] M) : ∀ (x2 : Int32) (x3 : Int32) (M : sm_M) (r : sm_M), f_X8_releaseWindows_12b F kb12 x2 x3 M = some r → sm_J (md_X8_releaseWindows, 2, sk, .inl none, r) 12 [some (.ref 57), none, some (.int x2), some (.int x3), none] [] M := by
  intro x2 x3  M r h
  unfold f_X8_releaseWindows_12b at h
  refine sm_iload_n (q := 13) d_X8_releaseWindows_12 rfl rfl ?_
  refine sm_iload_n (q := 14) d_X8_releaseWindows_13 rfl rfl ?_
  refine sm_icmp_gt (q := 17) (t := 52) d_X8_releaseWindows_14 rfl rfl (fun c1 => ?_) (fun c1 => ?_)
  · replace h := sm_it c1 h
    obtain rfl := Option.some.inj h
    exact sm_vret d_X8_releaseWindows_52 rfl rfl rfl
  · replace h := sm_if c1 h
    refine sm_aload_n (q := 18) d_X8_releaseWindows_17 rfl rfl ?_
    refine sm_getr (q := 21) d_X8_releaseWindows_18 rfl fl_X8_18 (hx sx_57) rfl ?_
    refine sm_iload_n (q := 22) d_X8_releaseWindows_21 rfl rfl ?_
    obtain ⟨g2, h⟩ := sm_gt h
    refine sm_iaload (q := 23) d_X8_releaseWindows_22 rfl (hx sx_60) (sm_ib_of g2) ?_
    refine sm_istore (q := 25) (lt := [some (.ref 57), none, some (.int x2), some (.int x3), some (.int (M.1 60 x3.toNatClampNeg))]) d_X8_releaseWindows_23 rfl (Nat.le_of_ble_eq_true rfl) rfl rfl ?_
    refine sm_iload (q := 27) d_X8_releaseWindows_25 rfl rfl ?_
    refine sm_iconst (q := 28) d_X8_releaseWindows_27 rfl ci_m1 ?_
    refine sm_icmp_eq (q := 31) (t := 46) d_X8_releaseWindows_28 rfl rfl (fun c3 => ?_) (fun c3 => ?_)
    · replace h := sm_it c3 h
      refine sm_fg [4] ?_
      exact j_X8_releaseWindows_46 hx F kb12 hkb12 x2 x3 M _ h
    · replace h := sm_if c3 h
      refine sm_aload_n (q := 32) d_X8_releaseWindows_31 rfl rfl ?_
      refine sm_getr (q := 35) d_X8_releaseWindows_32 rfl fl_X8_22 (hx sx_57) rfl ?_
      refine sm_iload (q := 37) d_X8_releaseWindows_35 rfl rfl ?_
      refine sm_iconst (q := 38) d_X8_releaseWindows_37 rfl ci_0 ?_
      obtain ⟨g4, h⟩ := sm_gt h
      refine sm_bastore (q := 39) d_X8_releaseWindows_38 rfl (hx sx_61) (sm_ib_of g4) ?_
      refine sm_aload_n (q := 40) d_X8_releaseWindows_39 rfl rfl ?_
      refine sm_getr (q := 43) d_X8_releaseWindows_40 rfl fl_X8_18 (hx sx_57) rfl ?_
      refine sm_iload_n (q := 44) d_X8_releaseWindows_43 rfl rfl ?_
      refine sm_iconst (q := 45) d_X8_releaseWindows_44 rfl ci_m1 ?_
      obtain ⟨g5, h⟩ := sm_gt h
      refine sm_iastore (q := 46) d_X8_releaseWindows_45 rfl (hx sx_60) (sm_ib_of g5) ?_
      refine sm_fg [4] ?_
      exact j_X8_releaseWindows_46 hx F kb12 hkb12 x2 x3 ((sm_mi (sm_mi M 61 (M.1 60 x3.toNatClampNeg).toNatClampNeg (vp_nar .boolean (0 : Int32))) 60 x3.toNatClampNeg (-1 : Int32))) _ h
def f_X8_releaseWindows_12 (F : Nat) (n : Nat) : Int32 → Int32 → sm_M → Option (sm_M) := match n with
 | 0 => fun _ _ _ => none
 | n + 1 => f_X8_releaseWindows_12b F (f_X8_releaseWindows_12 F n)
theorem j_X8_releaseWindows_12 {sk : List sm_Sh} (hx : sm_ext skX sk) (F : Nat) : ∀ (n : Nat) (x2 : Int32) (x3 : Int32) (M : sm_M) (r : sm_M), f_X8_releaseWindows_12 F n x2 x3 M = some r → sm_J (md_X8_releaseWindows, 2, sk, .inl none, r) 12 [some (.ref 57), none, some (.int x2), some (.int x3), none] [] M := by
  intro n
  induction n with
  | zero => intro x2 x3  M r h; exact nomatch (show (none : Option (sm_M)) = some r from h)
  | succ n ih => exact j_X8_releaseWindows_12b hx F (f_X8_releaseWindows_12 F n) ih
def f_X8_releaseWindows (F : Nat) (x1 : Int32) (M : sm_M) : Option (sm_M) := (f_X8_highestDecided F x1 M).bind fun q1 => (f_X8_lowestDecided F x1 M).bind fun q2 => f_X8_releaseWindows_12 F F q1 q2 M
set_option maxRecDepth 100000 in
set_option maxHeartbeats 4000000 in
theorem j_X8_releaseWindows {sk : List sm_Sh} (hx : sm_ext skX sk) (F : Nat) : ∀ (x1 : Int32) (M : sm_M) (r : sm_M), f_X8_releaseWindows F x1 M = some r → sm_J (md_X8_releaseWindows, 2, sk, .inl none, r) 0 [some (.ref 57), some (.int x1), none, none, none] [] M := by
  intro x1  M r h
  unfold f_X8_releaseWindows at h
  refine sm_aload_n (q := 1) d_X8_releaseWindows_0 rfl rfl ?_
  refine sm_iload_n (q := 2) d_X8_releaseWindows_1 rfl rfl ?_
  obtain ⟨q1, e1, h⟩ := sm_bd h
  refine sm_callV (q := 5) (d' := 0) [] [.int x1] d_X8_releaseWindows_2 rfl lk_X8_73 (hx sx_57) rfl rfl rfl (Nat.le_of_ble_eq_true rfl) (Nat.le_of_ble_eq_true rfl) (c_X8_highestDecided hx F x1 M _ e1) (st9 := [.int q1]) rfl ?_
  refine sm_istore_n (q := 6) (lt := [some (.ref 57), some (.int x1), some (.int q1), none, none]) d_X8_releaseWindows_5 rfl (Nat.le_of_ble_eq_true rfl) rfl rfl ?_
  refine sm_aload_n (q := 7) d_X8_releaseWindows_6 rfl rfl ?_
  refine sm_iload_n (q := 8) d_X8_releaseWindows_7 rfl rfl ?_
  obtain ⟨q2, e2, h⟩ := sm_bd h
  refine sm_callV (q := 11) (d' := 1) [] [.int x1] d_X8_releaseWindows_8 rfl lk_X8_77 (hx sx_57) rfl rfl rfl (Nat.le_of_ble_eq_true rfl) (Nat.le_of_ble_eq_true rfl) (c_X8_lowestDecided hx F x1 M _ e2) (st9 := [.int q2]) rfl ?_
  refine sm_istore_n (q := 12) (lt := [some (.ref 57), some (.int x1), some (.int q1), some (.int q2), none]) d_X8_releaseWindows_11 rfl (Nat.le_of_ble_eq_true rfl) rfl rfl ?_
  refine sm_fg [1] ?_
  exact j_X8_releaseWindows_12 hx F F q1 q2 M _ h
theorem c_X8_releaseWindows {sk : List sm_Sh} (hx : sm_ext skX sk) (F : Nat) (x1 : Int32) (M : sm_M) (r : sm_M) (h : f_X8_releaseWindows F x1 M = some r) : sm_Ct yX8_releaseWindows md_X8_releaseWindows 2 sk [.ref 57, .int x1] M (.inl none) r := sm_enter 3 pn_X8 rfl (Nat.le_of_ble_eq_true rfl) rfl (j_X8_releaseWindows hx F x1 M r h)
/-! UniversalCycles$Search.goBack(LUniversalCycles$Family;I)I -/
theorem d_X8_goBack_0 : decode cX8_goBack 0 = .ok (.iload_n 2, 1) := by decide +kernel
theorem d_X8_goBack_1 : decode cX8_goBack 1 = .ok (.istore_n 3, 1) := by decide +kernel
theorem d_X8_goBack_2 : decode cX8_goBack 2 = .ok (.iload_n 3, 1) := by decide +kernel
theorem d_X8_goBack_3 : decode cX8_goBack 3 = .ok (.ifCond .lt 47, 3) := by decide +kernel
theorem d_X8_goBack_6 : decode cX8_goBack 6 = .ok (.aload_n 0, 1) := by decide +kernel
theorem d_X8_goBack_7 : decode cX8_goBack 7 = .ok (.iload_n 3, 1) := by decide +kernel
theorem d_X8_goBack_8 : decode cX8_goBack 8 = .ok (.invokevirtual 84, 3) := by decide +kernel
theorem d_X8_goBack_11 : decode cX8_goBack 11 = .ok (.aload_n 0, 1) := by decide +kernel
theorem d_X8_goBack_12 : decode cX8_goBack 12 = .ok (.getfield 12, 3) := by decide +kernel
theorem d_X8_goBack_15 : decode cX8_goBack 15 = .ok (.getfield 38, 3) := by decide +kernel
theorem d_X8_goBack_18 : decode cX8_goBack 18 = .ok (.iload_n 3, 1) := by decide +kernel
theorem d_X8_goBack_19 : decode cX8_goBack 19 = .ok (.iaload, 1) := by decide +kernel
theorem d_X8_goBack_20 : decode cX8_goBack 20 = .ok (.iconst 1, 1) := by decide +kernel
theorem d_X8_goBack_21 : decode cX8_goBack 21 = .ok (.iadd, 1) := by decide +kernel
theorem d_X8_goBack_22 : decode cX8_goBack 22 = .ok (.aload_n 1, 1) := by decide +kernel
theorem d_X8_goBack_23 : decode cX8_goBack 23 = .ok (.getfield 88, 3) := by decide +kernel
theorem d_X8_goBack_26 : decode cX8_goBack 26 = .ok (.if_icmp .ge 18, 3) := by decide +kernel
theorem d_X8_goBack_29 : decode cX8_goBack 29 = .ok (.aload_n 0, 1) := by decide +kernel
theorem d_X8_goBack_30 : decode cX8_goBack 30 = .ok (.getfield 12, 3) := by decide +kernel
theorem d_X8_goBack_33 : decode cX8_goBack 33 = .ok (.getfield 38, 3) := by decide +kernel
theorem d_X8_goBack_36 : decode cX8_goBack 36 = .ok (.iload_n 3, 1) := by decide +kernel
theorem d_X8_goBack_37 : decode cX8_goBack 37 = .ok (.dup2, 1) := by decide +kernel
theorem d_X8_goBack_38 : decode cX8_goBack 38 = .ok (.iaload, 1) := by decide +kernel
theorem d_X8_goBack_39 : decode cX8_goBack 39 = .ok (.iconst 1, 1) := by decide +kernel
theorem d_X8_goBack_40 : decode cX8_goBack 40 = .ok (.iadd, 1) := by decide +kernel
theorem d_X8_goBack_41 : decode cX8_goBack 41 = .ok (.iastore, 1) := by decide +kernel
theorem d_X8_goBack_42 : decode cX8_goBack 42 = .ok (.iload_n 3, 1) := by decide +kernel
theorem d_X8_goBack_43 : decode cX8_goBack 43 = .ok (.ireturn, 1) := by decide +kernel
theorem d_X8_goBack_44 : decode cX8_goBack 44 = .ok (.iinc 3 (-1), 3) := by decide +kernel
theorem d_X8_goBack_47 : decode cX8_goBack 47 = .ok (.goto (-45), 3) := by decide +kernel
theorem d_X8_goBack_50 : decode cX8_goBack 50 = .ok (.iconst (-1), 1) := by decide +kernel
theorem d_X8_goBack_51 : decode cX8_goBack 51 = .ok (.ireturn, 1) := by decide +kernel
def f_X8_goBack_2b (F : Nat) (kb2 : Int32 → sm_M → Option (Int32 × sm_M)) (x3 : Int32) (M : sm_M) : Option (Int32 × sm_M) := if x3 < 0 then (some ((-1 : Int32), M)) else ((f_X8_releaseWindows F x3 M).bind fun q2 => sm_g (sm_ib x3 240) (if (q2.1 1 3) ≤ ((q2.1 59 x3.toNatClampNeg) + (1 : Int32)) then (kb2 (x3 + (-1)) q2) else (sm_g (sm_ib x3 240) (sm_g (sm_ib x3 240) (some (x3, (sm_mi q2 59 x3.toNatClampNeg ((q2.1 59 x3.toNatClampNeg) + (1 : Int32)))))))))
set_option maxRecDepth 100000 in
set_option maxHeartbeats 4000000 in
theorem j_X8_goBack_2b {sk : List sm_Sh} (hx : sm_ext skX sk) (F : Nat) (kb2 : Int32 → sm_M → Option (Int32 × sm_M)) (hkb2 : ∀ (x3 : Int32) (M : sm_M) (r : Int32 × sm_M), kb2 x3 M = some r → sm_J (md_X8_goBack, 3, sk, .inl (some (.int r.1)), r.2) 2 [some (.ref 57), some (.ref 1), none, some (.int x3)] [] M) : ∀ (x3 : Int32) (M : sm_M) (r : Int32 × sm_M), f_X8_goBack_2b F kb2 x3 M = some r → sm_J (md_X8_goBack, 3, sk, .inl (some (.int r.1)), r.2) 2 [some (.ref 57), some (.ref 1), none, some (.int x3)] [] M := by
  intro x3  M r h
  unfold f_X8_goBack_2b at h
  refine sm_iload_n (q := 3) d_X8_goBack_2 rfl rfl ?_
  refine sm_if_lt (q := 6) (t := 50) d_X8_goBack_3 rfl rfl (fun c1 => ?_) (fun c1 => ?_)
  · replace h := sm_it c1 h
    refine sm_iconst (q := 51) d_X8_goBack_50 rfl ci_m1 ?_
    obtain rfl := Option.some.inj h
    exact sm_iret d_X8_goBack_51 rfl rfl rfl rfl
  · replace h := sm_if c1 h
    refine sm_aload_n (q := 7) d_X8_goBack_6 rfl rfl ?_
    refine sm_iload_n (q := 8) d_X8_goBack_7 rfl rfl ?_
    obtain ⟨q2, e2, h⟩ := sm_bd h
    refine sm_callV (q := 11) (d' := 2) [] [.int x3] d_X8_goBack_8 rfl lk_X8_84 (hx sx_57) rfl rfl rfl (Nat.le_of_ble_eq_true rfl) (Nat.le_of_ble_eq_true rfl) (c_X8_releaseWindows hx F x3 M _ e2) (st9 := []) rfl ?_
    refine sm_aload_n (q := 12) d_X8_goBack_11 rfl rfl ?_
    refine sm_getr (q := 15) d_X8_goBack_12 rfl fl_X8_12 (hx sx_57) rfl ?_
    refine sm_getr (q := 18) d_X8_goBack_15 rfl fl_X8_38 (hx sx_58) rfl ?_
    refine sm_iload_n (q := 19) d_X8_goBack_18 rfl rfl ?_
    obtain ⟨g3, h⟩ := sm_gt h
    refine sm_iaload (q := 20) d_X8_goBack_19 rfl (hx sx_59) (sm_ib_of g3) ?_
    refine sm_iconst (q := 21) d_X8_goBack_20 rfl ci_1 ?_
    refine sm_iadd (q := 22) d_X8_goBack_21 rfl ?_
    refine sm_aload_n (q := 23) d_X8_goBack_22 rfl rfl ?_
    refine sm_geti (q := 26) d_X8_goBack_23 rfl fl_X8_88 (hx sx_1) rfl ?_
    refine sm_icmp_ge (q := 29) (t := 44) d_X8_goBack_26 rfl rfl (fun c4 => ?_) (fun c4 => ?_)
    · replace h := sm_it c4 h
      refine sm_iinc (q := 47) (v := (x3 + (-1))) (lt := [some (.ref 57), some (.ref 1), none, some (.int (x3 + (-1)))]) d_X8_goBack_44 rfl rfl (ii_m1 _) (Nat.le_of_ble_eq_true rfl) rfl rfl ?_
      refine sm_goto (t := 2) d_X8_goBack_47 rfl ?_
      exact hkb2 (x3 + (-1)) q2 _ h
    · replace h := sm_if c4 h
      refine sm_aload_n (q := 30) d_X8_goBack_29 rfl rfl ?_
      refine sm_getr (q := 33) d_X8_goBack_30 rfl fl_X8_12 (hx sx_57) rfl ?_
      refine sm_getr (q := 36) d_X8_goBack_33 rfl fl_X8_38 (hx sx_58) rfl ?_
      refine sm_iload_n (q := 37) d_X8_goBack_36 rfl rfl ?_
      refine sm_dup2 (q := 38) d_X8_goBack_37 rfl rfl rfl ?_
      obtain ⟨g5, h⟩ := sm_gt h
      refine sm_iaload (q := 39) d_X8_goBack_38 rfl (hx sx_59) (sm_ib_of g5) ?_
      refine sm_iconst (q := 40) d_X8_goBack_39 rfl ci_1 ?_
      refine sm_iadd (q := 41) d_X8_goBack_40 rfl ?_
      obtain ⟨g6, h⟩ := sm_gt h
      refine sm_iastore (q := 42) d_X8_goBack_41 rfl (hx sx_59) (sm_ib_of g6) ?_
      refine sm_iload_n (q := 43) d_X8_goBack_42 rfl rfl ?_
      obtain rfl := Option.some.inj h
      exact sm_iret d_X8_goBack_43 rfl rfl rfl rfl
def f_X8_goBack_2 (F : Nat) (n : Nat) : Int32 → sm_M → Option (Int32 × sm_M) := match n with
 | 0 => fun _ _ => none
 | n + 1 => f_X8_goBack_2b F (f_X8_goBack_2 F n)
theorem j_X8_goBack_2 {sk : List sm_Sh} (hx : sm_ext skX sk) (F : Nat) : ∀ (n : Nat) (x3 : Int32) (M : sm_M) (r : Int32 × sm_M), f_X8_goBack_2 F n x3 M = some r → sm_J (md_X8_goBack, 3, sk, .inl (some (.int r.1)), r.2) 2 [some (.ref 57), some (.ref 1), none, some (.int x3)] [] M := by
  intro n
  induction n with
  | zero => intro x3  M r h; exact nomatch (show (none : Option (Int32 × sm_M)) = some r from h)
  | succ n ih => exact j_X8_goBack_2b hx F (f_X8_goBack_2 F n) ih
def f_X8_goBack (F : Nat) (x2 : Int32) (M : sm_M) : Option (Int32 × sm_M) := f_X8_goBack_2 F F x2 M
set_option maxRecDepth 100000 in
set_option maxHeartbeats 4000000 in
theorem j_X8_goBack {sk : List sm_Sh} (hx : sm_ext skX sk) (F : Nat) : ∀ (x2 : Int32) (M : sm_M) (r : Int32 × sm_M), f_X8_goBack F x2 M = some r → sm_J (md_X8_goBack, 3, sk, .inl (some (.int r.1)), r.2) 0 [some (.ref 57), some (.ref 1), some (.int x2), none] [] M := by
  intro x2  M r h
  unfold f_X8_goBack at h
  refine sm_iload_n (q := 1) d_X8_goBack_0 rfl rfl ?_
  refine sm_istore_n (q := 2) (lt := [some (.ref 57), some (.ref 1), some (.int x2), some (.int x2)]) d_X8_goBack_1 rfl (Nat.le_of_ble_eq_true rfl) rfl rfl ?_
  refine sm_fg [2] ?_
  exact j_X8_goBack_2 hx F F x2 M _ h
theorem c_X8_goBack {sk : List sm_Sh} (hx : sm_ext skX sk) (F : Nat) (x2 : Int32) (M : sm_M) (r : Int32 × sm_M) (h : f_X8_goBack F x2 M = some r) : sm_Ct yX8_goBack md_X8_goBack 3 sk [.ref 57, .ref 1, .int x2] M (.inl (some (.int r.1))) r.2 := sm_enter 1 pn_X8 rfl (Nat.le_of_ble_eq_true rfl) rfl (j_X8_goBack hx F x2 M r h)
/-! UniversalCycles$Search.run(LUniversalCycles$Family;I)I -/
theorem d_X8_run_0 : decode cX8_run 0 = .ok (.aload_n 0, 1) := by decide +kernel
theorem d_X8_run_1 : decode cX8_run 1 = .ok (.aload_n 1, 1) := by decide +kernel
theorem d_X8_run_2 : decode cX8_run 2 = .ok (.invokevirtual 26, 3) := by decide +kernel
theorem d_X8_run_5 : decode cX8_run 5 = .ok (.iconst 0, 1) := by decide +kernel
theorem d_X8_run_6 : decode cX8_run 6 = .ok (.istore_n 3, 1) := by decide +kernel
theorem d_X8_run_7 : decode cX8_run 7 = .ok (.iconst 1, 1) := by decide +kernel
theorem d_X8_run_8 : decode cX8_run 8 = .ok (.istore 4, 2) := by decide +kernel
theorem d_X8_run_10 : decode cX8_run 10 = .ok (.iload 4, 2) := by decide +kernel
theorem d_X8_run_12 : decode cX8_run 12 = .ok (.iload_n 2, 1) := by decide +kernel
theorem d_X8_run_13 : decode cX8_run 13 = .ok (.if_icmp .gt 69, 3) := by decide +kernel
theorem d_X8_run_16 : decode cX8_run 16 = .ok (.aload_n 0, 1) := by decide +kernel
theorem d_X8_run_17 : decode cX8_run 17 = .ok (.aload_n 1, 1) := by decide +kernel
theorem d_X8_run_18 : decode cX8_run 18 = .ok (.iload_n 3, 1) := by decide +kernel
theorem d_X8_run_19 : decode cX8_run 19 = .ok (.invokevirtual 30, 3) := by decide +kernel
theorem d_X8_run_22 : decode cX8_run 22 = .ok (.istore 5, 2) := by decide +kernel
theorem d_X8_run_24 : decode cX8_run 24 = .ok (.iload 5, 2) := by decide +kernel
theorem d_X8_run_26 : decode cX8_run 26 = .ok (.ifCond .eq 14, 3) := by decide +kernel
theorem d_X8_run_29 : decode cX8_run 29 = .ok (.iload_n 3, 1) := by decide +kernel
theorem d_X8_run_30 : decode cX8_run 30 = .ok (.aload_n 0, 1) := by decide +kernel
theorem d_X8_run_31 : decode cX8_run 31 = .ok (.getfield 34, 3) := by decide +kernel
theorem d_X8_run_34 : decode cX8_run 34 = .ok (.if_icmp .ne 6, 3) := by decide +kernel
theorem d_X8_run_37 : decode cX8_run 37 = .ok (.iload 4, 2) := by decide +kernel
theorem d_X8_run_39 : decode cX8_run 39 = .ok (.ireturn, 1) := by decide +kernel
theorem d_X8_run_40 : decode cX8_run 40 = .ok (.iload 5, 2) := by decide +kernel
theorem d_X8_run_42 : decode cX8_run 42 = .ok (.ifCond .eq 19, 3) := by decide +kernel
theorem d_X8_run_45 : decode cX8_run 45 = .ok (.iinc 3 1, 3) := by decide +kernel
theorem d_X8_run_48 : decode cX8_run 48 = .ok (.aload_n 0, 1) := by decide +kernel
theorem d_X8_run_49 : decode cX8_run 49 = .ok (.getfield 12, 3) := by decide +kernel
theorem d_X8_run_52 : decode cX8_run 52 = .ok (.getfield 38, 3) := by decide +kernel
theorem d_X8_run_55 : decode cX8_run 55 = .ok (.iload_n 3, 1) := by decide +kernel
theorem d_X8_run_56 : decode cX8_run 56 = .ok (.iconst 0, 1) := by decide +kernel
theorem d_X8_run_57 : decode cX8_run 57 = .ok (.iastore, 1) := by decide +kernel
theorem d_X8_run_58 : decode cX8_run 58 = .ok (.goto 10, 3) := by decide +kernel
theorem d_X8_run_61 : decode cX8_run 61 = .ok (.aload_n 0, 1) := by decide +kernel
theorem d_X8_run_62 : decode cX8_run 62 = .ok (.aload_n 1, 1) := by decide +kernel
theorem d_X8_run_63 : decode cX8_run 63 = .ok (.iload_n 3, 1) := by decide +kernel
theorem d_X8_run_64 : decode cX8_run 64 = .ok (.invokevirtual 41, 3) := by decide +kernel
theorem d_X8_run_67 : decode cX8_run 67 = .ok (.istore_n 3, 1) := by decide +kernel
theorem d_X8_run_68 : decode cX8_run 68 = .ok (.iload_n 3, 1) := by decide +kernel
theorem d_X8_run_69 : decode cX8_run 69 = .ok (.iconst (-1), 1) := by decide +kernel
theorem d_X8_run_70 : decode cX8_run 70 = .ok (.if_icmp .ne 6, 3) := by decide +kernel
theorem d_X8_run_73 : decode cX8_run 73 = .ok (.bipush (-2), 2) := by decide +kernel
theorem d_X8_run_75 : decode cX8_run 75 = .ok (.ireturn, 1) := by decide +kernel
theorem d_X8_run_76 : decode cX8_run 76 = .ok (.iinc 4 1, 3) := by decide +kernel
theorem d_X8_run_79 : decode cX8_run 79 = .ok (.goto (-69), 3) := by decide +kernel
theorem d_X8_run_82 : decode cX8_run 82 = .ok (.iconst (-1), 1) := by decide +kernel
theorem d_X8_run_83 : decode cX8_run 83 = .ok (.ireturn, 1) := by decide +kernel
def f_X8_run_68 (F : Nat) (kb10 : Int32 → Int32 → Int32 → sm_M → Option (Int32 × sm_M)) (x2 : Int32) (x3 : Int32) (x4 : Int32) (M : sm_M) : Option (Int32 × sm_M) := if x3 = (-1 : Int32) then (some ((-2 : Int32), M)) else (kb10 x2 x3 (x4 + 1) M)
set_option maxRecDepth 100000 in
set_option maxHeartbeats 4000000 in
theorem j_X8_run_68 {sk : List sm_Sh} (hx : sm_ext skX sk) (F : Nat) (kb10 : Int32 → Int32 → Int32 → sm_M → Option (Int32 × sm_M)) (hkb10 : ∀ (x2 : Int32) (x3 : Int32) (x4 : Int32) (M : sm_M) (r : Int32 × sm_M), kb10 x2 x3 x4 M = some r → sm_J (md_X8_run, 4, sk, .inl (some (.int r.1)), r.2) 10 [some (.ref 57), some (.ref 1), some (.int x2), some (.int x3), some (.int x4), none] [] M) : ∀ (x2 : Int32) (x3 : Int32) (x4 : Int32) (M : sm_M) (r : Int32 × sm_M), f_X8_run_68 F kb10 x2 x3 x4 M = some r → sm_J (md_X8_run, 4, sk, .inl (some (.int r.1)), r.2) 68 [some (.ref 57), some (.ref 1), some (.int x2), some (.int x3), some (.int x4), none] [] M := by
  intro x2 x3 x4  M r h
  unfold f_X8_run_68 at h
  refine sm_iload_n (q := 69) d_X8_run_68 rfl rfl ?_
  refine sm_iconst (q := 70) d_X8_run_69 rfl ci_m1 ?_
  refine sm_icmp_ne (q := 73) (t := 76) d_X8_run_70 rfl rfl (fun c1 => ?_) (fun c1 => ?_)
  · replace h := sm_if c1 h
    refine sm_iinc (q := 79) (v := (x4 + 1)) (lt := [some (.ref 57), some (.ref 1), some (.int x2), some (.int x3), some (.int (x4 + 1)), none]) d_X8_run_76 rfl rfl (ii_1 _) (Nat.le_of_ble_eq_true rfl) rfl rfl ?_
    refine sm_goto (t := 10) d_X8_run_79 rfl ?_
    exact hkb10 x2 x3 (x4 + 1) M _ h
  · replace h := sm_it c1 h
    refine sm_bipush (q := 75) d_X8_run_73 rfl cb_m2 ?_
    obtain rfl := Option.some.inj h
    exact sm_iret d_X8_run_75 rfl rfl rfl rfl
def f_X8_run_40 (F : Nat) (kb10 : Int32 → Int32 → Int32 → sm_M → Option (Int32 × sm_M)) (x2 : Int32) (x3 : Int32) (x4 : Int32) (x5 : Int32) (M : sm_M) : Option (Int32 × sm_M) := if x5 = 0 then ((f_X8_goBack F x3 M).bind fun q2 => f_X8_run_68 F kb10 x2 q2.1 x4 q2.2) else (sm_g (sm_ib (x3 + 1) 240) (f_X8_run_68 F kb10 x2 (x3 + 1) x4 ((sm_mi M 59 (x3 + 1).toNatClampNeg (0 : Int32)))))
set_option maxRecDepth 100000 in
set_option maxHeartbeats 4000000 in
theorem j_X8_run_40 {sk : List sm_Sh} (hx : sm_ext skX sk) (F : Nat) (kb10 : Int32 → Int32 → Int32 → sm_M → Option (Int32 × sm_M)) (hkb10 : ∀ (x2 : Int32) (x3 : Int32) (x4 : Int32) (M : sm_M) (r : Int32 × sm_M), kb10 x2 x3 x4 M = some r → sm_J (md_X8_run, 4, sk, .inl (some (.int r.1)), r.2) 10 [some (.ref 57), some (.ref 1), some (.int x2), some (.int x3), some (.int x4), none] [] M) : ∀ (x2 : Int32) (x3 : Int32) (x4 : Int32) (x5 : Int32) (M : sm_M) (r : Int32 × sm_M), f_X8_run_40 F kb10 x2 x3 x4 x5 M = some r → sm_J (md_X8_run, 4, sk, .inl (some (.int r.1)), r.2) 40 [some (.ref 57), some (.ref 1), some (.int x2), some (.int x3), some (.int x4), some (.int x5)] [] M := by
  intro x2 x3 x4 x5  M r h
  unfold f_X8_run_40 at h
  refine sm_iload (q := 42) d_X8_run_40 rfl rfl ?_
  refine sm_if_eq (q := 45) (t := 61) d_X8_run_42 rfl rfl (fun c1 => ?_) (fun c1 => ?_)
  · replace h := sm_it c1 h
    refine sm_aload_n (q := 62) d_X8_run_61 rfl rfl ?_
    refine sm_aload_n (q := 63) d_X8_run_62 rfl rfl ?_
    refine sm_iload_n (q := 64) d_X8_run_63 rfl rfl ?_
    obtain ⟨q2, e2, h⟩ := sm_bd h
    refine sm_callV (q := 67) (d' := 3) [] [.ref 1, .int x3] d_X8_run_64 rfl lk_X8_41 (hx sx_57) rfl rfl rfl (Nat.le_of_ble_eq_true rfl) (Nat.le_of_ble_eq_true rfl) (c_X8_goBack hx F x3 M _ e2) (st9 := [.int q2.1]) rfl ?_
    refine sm_istore_n (q := 68) (lt := [some (.ref 57), some (.ref 1), some (.int x2), some (.int q2.1), some (.int x4), some (.int x5)]) d_X8_run_67 rfl (Nat.le_of_ble_eq_true rfl) rfl rfl ?_
    refine sm_fg [5] ?_
    exact j_X8_run_68 hx F kb10 hkb10 x2 q2.1 x4 q2.2 _ h
  · replace h := sm_if c1 h
    refine sm_iinc (q := 48) (v := (x3 + 1)) (lt := [some (.ref 57), some (.ref 1), some (.int x2), some (.int (x3 + 1)), some (.int x4), some (.int x5)]) d_X8_run_45 rfl rfl (ii_1 _) (Nat.le_of_ble_eq_true rfl) rfl rfl ?_
    refine sm_aload_n (q := 49) d_X8_run_48 rfl rfl ?_
    refine sm_getr (q := 52) d_X8_run_49 rfl fl_X8_12 (hx sx_57) rfl ?_
    refine sm_getr (q := 55) d_X8_run_52 rfl fl_X8_38 (hx sx_58) rfl ?_
    refine sm_iload_n (q := 56) d_X8_run_55 rfl rfl ?_
    refine sm_iconst (q := 57) d_X8_run_56 rfl ci_0 ?_
    obtain ⟨g3, h⟩ := sm_gt h
    refine sm_iastore (q := 58) d_X8_run_57 rfl (hx sx_59) (sm_ib_of g3) ?_
    refine sm_goto (t := 68) d_X8_run_58 rfl ?_
    refine sm_fg [5] ?_
    exact j_X8_run_68 hx F kb10 hkb10 x2 (x3 + 1) x4 ((sm_mi M 59 (x3 + 1).toNatClampNeg (0 : Int32))) _ h
def f_X8_run_10b (F : Nat) (kb10 : Int32 → Int32 → Int32 → sm_M → Option (Int32 × sm_M)) (x2 : Int32) (x3 : Int32) (x4 : Int32) (M : sm_M) : Option (Int32 × sm_M) := if x2 < x4 then (some ((-1 : Int32), M)) else ((f_X8_claimWindows F x3 M).bind fun q2 => if q2.1 = 0 then (f_X8_run_40 F kb10 x2 x3 x4 q2.1 q2.2) else (if x3 = (q2.2.1 57 4) then (some (x4, q2.2)) else (f_X8_run_40 F kb10 x2 x3 x4 q2.1 q2.2)))
set_option maxRecDepth 100000 in
set_option maxHeartbeats 4000000 in
theorem j_X8_run_10b {sk : List sm_Sh} (hx : sm_ext skX sk) (F : Nat) (kb10 : Int32 → Int32 → Int32 → sm_M → Option (Int32 × sm_M)) (hkb10 : ∀ (x2 : Int32) (x3 : Int32) (x4 : Int32) (M : sm_M) (r : Int32 × sm_M), kb10 x2 x3 x4 M = some r → sm_J (md_X8_run, 4, sk, .inl (some (.int r.1)), r.2) 10 [some (.ref 57), some (.ref 1), some (.int x2), some (.int x3), some (.int x4), none] [] M) : ∀ (x2 : Int32) (x3 : Int32) (x4 : Int32) (M : sm_M) (r : Int32 × sm_M), f_X8_run_10b F kb10 x2 x3 x4 M = some r → sm_J (md_X8_run, 4, sk, .inl (some (.int r.1)), r.2) 10 [some (.ref 57), some (.ref 1), some (.int x2), some (.int x3), some (.int x4), none] [] M := by
  intro x2 x3 x4  M r h
  unfold f_X8_run_10b at h
  refine sm_iload (q := 12) d_X8_run_10 rfl rfl ?_
  refine sm_iload_n (q := 13) d_X8_run_12 rfl rfl ?_
  refine sm_icmp_gt (q := 16) (t := 82) d_X8_run_13 rfl rfl (fun c1 => ?_) (fun c1 => ?_)
  · replace h := sm_it c1 h
    refine sm_iconst (q := 83) d_X8_run_82 rfl ci_m1 ?_
    obtain rfl := Option.some.inj h
    exact sm_iret d_X8_run_83 rfl rfl rfl rfl
  · replace h := sm_if c1 h
    refine sm_aload_n (q := 17) d_X8_run_16 rfl rfl ?_
    refine sm_aload_n (q := 18) d_X8_run_17 rfl rfl ?_
    refine sm_iload_n (q := 19) d_X8_run_18 rfl rfl ?_
    obtain ⟨q2, e2, h⟩ := sm_bd h
    refine sm_callV (q := 22) (d' := 3) [] [.ref 1, .int x3] d_X8_run_19 rfl lk_X8_30 (hx sx_57) rfl rfl rfl (Nat.le_of_ble_eq_true rfl) (Nat.le_of_ble_eq_true rfl) (c_X8_claimWindows hx F x3 M _ e2) (st9 := [.int q2.1]) rfl ?_
    refine sm_istore (q := 24) (lt := [some (.ref 57), some (.ref 1), some (.int x2), some (.int x3), some (.int x4), some (.int q2.1)]) d_X8_run_22 rfl (Nat.le_of_ble_eq_true rfl) rfl rfl ?_
    refine sm_iload (q := 26) d_X8_run_24 rfl rfl ?_
    refine sm_if_eq (q := 29) (t := 40) d_X8_run_26 rfl rfl (fun c3 => ?_) (fun c3 => ?_)
    · replace h := sm_it c3 h
      exact j_X8_run_40 hx F kb10 hkb10 x2 x3 x4 q2.1 q2.2 _ h
    · replace h := sm_if c3 h
      refine sm_iload_n (q := 30) d_X8_run_29 rfl rfl ?_
      refine sm_aload_n (q := 31) d_X8_run_30 rfl rfl ?_
      refine sm_geti (q := 34) d_X8_run_31 rfl fl_X8_34 (hx sx_57) rfl ?_
      refine sm_icmp_ne (q := 37) (t := 40) d_X8_run_34 rfl rfl (fun c4 => ?_) (fun c4 => ?_)
      · replace h := sm_if c4 h
        exact j_X8_run_40 hx F kb10 hkb10 x2 x3 x4 q2.1 q2.2 _ h
      · replace h := sm_it c4 h
        refine sm_iload (q := 39) d_X8_run_37 rfl rfl ?_
        obtain rfl := Option.some.inj h
        exact sm_iret d_X8_run_39 rfl rfl rfl rfl
def f_X8_run_10 (F : Nat) (n : Nat) : Int32 → Int32 → Int32 → sm_M → Option (Int32 × sm_M) := match n with
 | 0 => fun _ _ _ _ => none
 | n + 1 => f_X8_run_10b F (f_X8_run_10 F n)
theorem j_X8_run_10 {sk : List sm_Sh} (hx : sm_ext skX sk) (F : Nat) : ∀ (n : Nat) (x2 : Int32) (x3 : Int32) (x4 : Int32) (M : sm_M) (r : Int32 × sm_M), f_X8_run_10 F n x2 x3 x4 M = some r → sm_J (md_X8_run, 4, sk, .inl (some (.int r.1)), r.2) 10 [some (.ref 57), some (.ref 1), some (.int x2), some (.int x3), some (.int x4), none] [] M := by
  intro n
  induction n with
  | zero => intro x2 x3 x4  M r h; exact nomatch (show (none : Option (Int32 × sm_M)) = some r from h)
  | succ n ih => exact j_X8_run_10b hx F (f_X8_run_10 F n) ih
def f_X8_run (F : Nat) (x2 : Int32) (M : sm_M) : Option (Int32 × sm_M) := (f_X8_begin F M).bind fun q1 => f_X8_run_10 F F x2 (0 : Int32) (1 : Int32) q1
set_option maxRecDepth 100000 in
set_option maxHeartbeats 4000000 in
theorem j_X8_run {sk : List sm_Sh} (hx : sm_ext skX sk) (F : Nat) : ∀ (x2 : Int32) (M : sm_M) (r : Int32 × sm_M), f_X8_run F x2 M = some r → sm_J (md_X8_run, 4, sk, .inl (some (.int r.1)), r.2) 0 [some (.ref 57), some (.ref 1), some (.int x2), none, none, none] [] M := by
  intro x2  M r h
  unfold f_X8_run at h
  refine sm_aload_n (q := 1) d_X8_run_0 rfl rfl ?_
  refine sm_aload_n (q := 2) d_X8_run_1 rfl rfl ?_
  obtain ⟨q1, e1, h⟩ := sm_bd h
  refine sm_callV (q := 5) (d' := 1) [] [.ref 1] d_X8_run_2 rfl lk_X8_26 (hx sx_57) rfl rfl rfl (Nat.le_of_ble_eq_true rfl) (Nat.le_of_ble_eq_true rfl) (c_X8_begin hx F M _ e1) (st9 := []) rfl ?_
  refine sm_iconst (q := 6) d_X8_run_5 rfl ci_0 ?_
  refine sm_istore_n (q := 7) (lt := [some (.ref 57), some (.ref 1), some (.int x2), some (.int (0 : Int32)), none, none]) d_X8_run_6 rfl (Nat.le_of_ble_eq_true rfl) rfl rfl ?_
  refine sm_iconst (q := 8) d_X8_run_7 rfl ci_1 ?_
  refine sm_istore (q := 10) (lt := [some (.ref 57), some (.ref 1), some (.int x2), some (.int (0 : Int32)), some (.int (1 : Int32)), none]) d_X8_run_8 rfl (Nat.le_of_ble_eq_true rfl) rfl rfl ?_
  exact j_X8_run_10 hx F F x2 (0 : Int32) (1 : Int32) q1 _ h
theorem c_X8_run {sk : List sm_Sh} (hx : sm_ext skX sk) (F : Nat) (x2 : Int32) (M : sm_M) (r : Int32 × sm_M) (h : f_X8_run F x2 M = some r) : sm_Ct yX8_run md_X8_run 4 sk [.ref 57, .ref 1, .int x2] M (.inl (some (.int r.1))) r.2 := sm_enter 3 pn_X8 rfl (Nat.le_of_ble_eq_true rfl) rfl (j_X8_run hx F x2 M r h)
