/-! ===== methods, decompiled: 15b.face ===== -/
/-! UniversalCycles.length()I -/
theorem d_X11_length_0 : decode cX11_length 0 = .ok (.aload_n 0, 1) := by decide +kernel
theorem d_X11_length_1 : decode cX11_length 1 = .ok (.getfield 26, 3) := by decide +kernel
theorem d_X11_length_4 : decode cX11_length 4 = .ok (.getfield 130, 3) := by decide +kernel
theorem d_X11_length_7 : decode cX11_length 7 = .ok (.ireturn, 1) := by decide +kernel
def f_X11_length (F : Nat) (M : sm_M) : Option (Int32) := some (M.1 24 1)
set_option maxRecDepth 100000 in
set_option maxHeartbeats 4000000 in
theorem j_X11_length {sk : List sm_Sh} (hx : sm_ext skX sk) (F : Nat) : ∀ (M : sm_M) (r : Int32), f_X11_length F M = some r → sm_J (md_X11_length, 0, sk, .inl (some (.int r)), M) 0 [some (.ref 0)] [] M := by
  intro   M r h
  unfold f_X11_length at h
  refine sm_aload_n (q := 1) d_X11_length_0 rfl rfl ?_
  refine sm_getr (q := 4) d_X11_length_1 rfl fl_X11_26 (hx sx_0) rfl ?_
  refine sm_geti (q := 7) d_X11_length_4 rfl fl_X11_130 (hx sx_24) rfl ?_
  obtain rfl := Option.some.inj h
  exact sm_iret d_X11_length_7 rfl rfl rfl rfl
theorem c_X11_length {sk : List sm_Sh} (hx : sm_ext skX sk) (F : Nat) (M : sm_M) (r : Int32) (h : f_X11_length F M = some r) : sm_Ct yX11_length md_X11_length 0 sk [.ref 0] M (.inl (some (.int r))) M := sm_enter 0 pn_X11 rfl (Nat.le_of_ble_eq_true rfl) rfl (j_X11_length hx F M r h)
/-! UniversalCycles.clear()I -/
theorem d_X11_clear_0 : decode cX11_clear 0 = .ok (.aload_n 0, 1) := by decide +kernel
theorem d_X11_clear_1 : decode cX11_clear 1 = .ok (.getfield 33, 3) := by decide +kernel
theorem d_X11_clear_4 : decode cX11_clear 4 = .ok (.aload_n 0, 1) := by decide +kernel
theorem d_X11_clear_5 : decode cX11_clear 5 = .ok (.getfield 26, 3) := by decide +kernel
theorem d_X11_clear_8 : decode cX11_clear 8 = .ok (.invokevirtual 136, 3) := by decide +kernel
theorem d_X11_clear_11 : decode cX11_clear 11 = .ok (.astore_n 1, 1) := by decide +kernel
theorem d_X11_clear_12 : decode cX11_clear 12 = .ok (.aload_n 0, 1) := by decide +kernel
theorem d_X11_clear_13 : decode cX11_clear 13 = .ok (.getfield 26, 3) := by decide +kernel
theorem d_X11_clear_16 : decode cX11_clear 16 = .ok (.iconst 0, 1) := by decide +kernel
theorem d_X11_clear_17 : decode cX11_clear 17 = .ok (.putfield 130, 3) := by decide +kernel
theorem d_X11_clear_20 : decode cX11_clear 20 = .ok (.aload_n 1, 1) := by decide +kernel
theorem d_X11_clear_21 : decode cX11_clear 21 = .ok (.getfield 130, 3) := by decide +kernel
theorem d_X11_clear_24 : decode cX11_clear 24 = .ok (.ireturn, 1) := by decide +kernel
def f_X11_clear (F : Nat) (M : sm_M) : Option (Int32 × sm_M) := (f_X6_remember F 24 M).bind fun q1 => some ((((sm_mi q1.2 24 1 (0 : Int32))).1 q1.1 1), (sm_mi q1.2 24 1 (0 : Int32)))
set_option maxRecDepth 100000 in
set_option maxHeartbeats 4000000 in
theorem j_X11_clear {sk : List sm_Sh} (hx : sm_ext skX sk) (F : Nat) : ∀ (M : sm_M) (r : Int32 × sm_M), f_X11_clear F M = some r → sm_J (md_X11_clear, 3, sk, .inl (some (.int r.1)), r.2) 0 [some (.ref 0), none] [] M := by
  intro   M r h
  unfold f_X11_clear at h
  refine sm_aload_n (q := 1) d_X11_clear_0 rfl rfl ?_
  refine sm_getr (q := 4) d_X11_clear_1 rfl fl_X11_33 (hx sx_0) rfl ?_
  refine sm_aload_n (q := 5) d_X11_clear_4 rfl rfl ?_
  refine sm_getr (q := 8) d_X11_clear_5 rfl fl_X11_26 (hx sx_0) rfl ?_
  obtain ⟨q1, e1, h⟩ := sm_bd h
  refine sm_callV (q := 11) (d' := 2) [] [.ref 24] d_X11_clear_8 rfl lk_X11_136 (hx sx_26) rfl rfl rfl (Nat.le_of_ble_eq_true rfl) (Nat.le_of_ble_eq_true rfl) (c_X6_remember hx F 24 ⟨hx sx_24, hx sx_25⟩ M _ e1) (st9 := [.ref q1.1]) rfl ?_
  refine sm_astore_n (q := 12) (lt := [some (.ref 0), some (.ref q1.1)]) d_X11_clear_11 rfl (Nat.le_of_ble_eq_true rfl) rfl rfl ?_
  refine sm_aload_n (q := 13) d_X11_clear_12 rfl rfl ?_
  refine sm_getr (q := 16) d_X11_clear_13 rfl fl_X11_26 (hx sx_0) rfl ?_
  refine sm_iconst (q := 17) d_X11_clear_16 rfl ci_0 ?_
  refine sm_puti (q := 20) d_X11_clear_17 rfl fw_X11_130 (hx sx_24) rfl rfl rfl ?_
  refine sm_aload_n (q := 21) d_X11_clear_20 rfl rfl ?_
  refine sm_geti (q := 24) d_X11_clear_21 rfl fl_X11_130 (rw_X6_remember hx e1).1 rfl ?_
  obtain rfl := Option.some.inj h
  exact sm_iret d_X11_clear_24 rfl rfl rfl rfl
theorem c_X11_clear {sk : List sm_Sh} (hx : sm_ext skX sk) (F : Nat) (M : sm_M) (r : Int32 × sm_M) (h : f_X11_clear F M = some r) : sm_Ct yX11_clear md_X11_clear 3 sk [.ref 0] M (.inl (some (.int r.1))) r.2 := sm_enter 1 pn_X11 rfl (Nat.le_of_ble_eq_true rfl) rfl (j_X11_clear hx F M r h)
/-! UniversalCycles.undo()I -/
theorem d_X11_undo_0 : decode cX11_undo 0 = .ok (.aload_n 0, 1) := by decide +kernel
theorem d_X11_undo_1 : decode cX11_undo 1 = .ok (.getfield 33, 3) := by decide +kernel
theorem d_X11_undo_4 : decode cX11_undo 4 = .ok (.getfield 149, 3) := by decide +kernel
theorem d_X11_undo_7 : decode cX11_undo 7 = .ok (.ifCond .ne 13, 3) := by decide +kernel
theorem d_X11_undo_10 : decode cX11_undo 10 = .ok (.new 150, 3) := by decide +kernel
theorem d_X11_undo_13 : decode cX11_undo 13 = .ok (.dup, 1) := by decide +kernel
theorem d_X11_undo_14 : decode cX11_undo 14 = .ok (.ldc 152, 2) := by decide +kernel
theorem d_X11_undo_16 : decode cX11_undo 16 = .ok (.invokespecial 154, 3) := by decide +kernel
theorem d_X11_undo_19 : decode cX11_undo 19 = .ok (.athrow, 1) := by decide +kernel
theorem d_X11_undo_20 : decode cX11_undo 20 = .ok (.aload_n 0, 1) := by decide +kernel
theorem d_X11_undo_21 : decode cX11_undo 21 = .ok (.getfield 33, 3) := by decide +kernel
theorem d_X11_undo_24 : decode cX11_undo 24 = .ok (.aload_n 0, 1) := by decide +kernel
theorem d_X11_undo_25 : decode cX11_undo 25 = .ok (.getfield 26, 3) := by decide +kernel
theorem d_X11_undo_28 : decode cX11_undo 28 = .ok (.invokevirtual 155, 3) := by decide +kernel
theorem d_X11_undo_31 : decode cX11_undo 31 = .ok (.aload_n 0, 1) := by decide +kernel
theorem d_X11_undo_32 : decode cX11_undo 32 = .ok (.getfield 26, 3) := by decide +kernel
theorem d_X11_undo_35 : decode cX11_undo 35 = .ok (.getfield 130, 3) := by decide +kernel
theorem d_X11_undo_38 : decode cX11_undo 38 = .ok (.ireturn, 1) := by decide +kernel
def f_X11_undo (F : Nat) (M : sm_M) : Option (sm_O × sm_M) := if (M.1 26 2) = 0 then (some (.inr "java/util/NoSuchElementException", M)) else ((f_X6_takeInto F 24 M).bind fun q2 => some (.inl (some (.int (q2.1 24 1))), q2))
set_option maxRecDepth 100000 in
set_option maxHeartbeats 4000000 in
theorem j_X11_undo {sk : List sm_Sh} (hx : sm_ext skX sk) (F : Nat) : ∀ (M : sm_M) (r : sm_O × sm_M), f_X11_undo F M = some r → sm_J (md_X11_undo, 6, sk, r.1, r.2) 0 [some (.ref 0)] [] M := by
  intro   M r h
  unfold f_X11_undo at h
  refine sm_aload_n (q := 1) d_X11_undo_0 rfl rfl ?_
  refine sm_getr (q := 4) d_X11_undo_1 rfl fl_X11_33 (hx sx_0) rfl ?_
  refine sm_geti (q := 7) d_X11_undo_4 rfl fl_X11_149 (hx sx_26) rfl ?_
  refine sm_if_ne (q := 10) (t := 20) d_X11_undo_7 rfl rfl (fun c1 => ?_) (fun c1 => ?_)
  · replace h := sm_if c1 h
    refine sm_aload_n (q := 21) d_X11_undo_20 rfl rfl ?_
    refine sm_getr (q := 24) d_X11_undo_21 rfl fl_X11_33 (hx sx_0) rfl ?_
    refine sm_aload_n (q := 25) d_X11_undo_24 rfl rfl ?_
    refine sm_getr (q := 28) d_X11_undo_25 rfl fl_X11_26 (hx sx_0) rfl ?_
    obtain ⟨q2, e2, h⟩ := sm_bd h
    refine sm_callV (q := 31) (d' := 2) [] [.ref 24] d_X11_undo_28 rfl lk_X11_155 (hx sx_26) rfl rfl rfl (Nat.le_of_ble_eq_true rfl) (Nat.le_of_ble_eq_true rfl) (c_X6_takeInto hx F 24 ⟨hx sx_24, hx sx_25⟩ M _ e2) (st9 := []) rfl ?_
    refine sm_aload_n (q := 32) d_X11_undo_31 rfl rfl ?_
    refine sm_getr (q := 35) d_X11_undo_32 rfl fl_X11_26 (hx sx_0) rfl ?_
    refine sm_geti (q := 38) d_X11_undo_35 rfl fl_X11_130 (hx sx_24) rfl ?_
    obtain rfl := Option.some.inj h
    exact sm_iret d_X11_undo_38 rfl rfl rfl rfl
  · replace h := sm_it c1 h
    obtain rfl := Option.some.inj h
    exact sm_throwN rfl lt_X11_150_152_154 d_X11_undo_10 d_X11_undo_13 d_X11_undo_14 d_X11_undo_16 d_X11_undo_19 (Nat.le_of_ble_eq_true rfl) (Nat.le_of_ble_eq_true rfl) rfl rfl
theorem c_X11_undo {sk : List sm_Sh} (hx : sm_ext skX sk) (F : Nat) (M : sm_M) (r : sm_O × sm_M) (h : f_X11_undo F M = some r) : sm_Ct yX11_undo md_X11_undo 6 sk [.ref 0] M (r.1) r.2 := sm_enter 0 pn_X11 rfl (Nat.le_of_ble_eq_true rfl) rfl (j_X11_undo hx F M r h)
/-! UniversalCycles.feed(C)I -/
theorem d_X11_feed_0 : decode cX11_feed 0 = .ok (.aload_n 0, 1) := by decide +kernel
theorem d_X11_feed_1 : decode cX11_feed 1 = .ok (.getfield 159, 3) := by decide +kernel
theorem d_X11_feed_4 : decode cX11_feed 4 = .ok (.sipush 240, 3) := by decide +kernel
theorem d_X11_feed_7 : decode cX11_feed 7 = .ok (.if_icmp .lt 13, 3) := by decide +kernel
theorem d_X11_feed_10 : decode cX11_feed 10 = .ok (.new 131, 3) := by decide +kernel
theorem d_X11_feed_13 : decode cX11_feed 13 = .ok (.dup, 1) := by decide +kernel
theorem d_X11_feed_14 : decode cX11_feed 14 = .ok (.ldc 162, 2) := by decide +kernel
theorem d_X11_feed_16 : decode cX11_feed 16 = .ok (.invokespecial 135, 3) := by decide +kernel
theorem d_X11_feed_19 : decode cX11_feed 19 = .ok (.athrow, 1) := by decide +kernel
theorem d_X11_feed_20 : decode cX11_feed 20 = .ok (.aload_n 0, 1) := by decide +kernel
theorem d_X11_feed_21 : decode cX11_feed 21 = .ok (.getfield 72, 3) := by decide +kernel
theorem d_X11_feed_24 : decode cX11_feed 24 = .ok (.aload_n 0, 1) := by decide +kernel
theorem d_X11_feed_25 : decode cX11_feed 25 = .ok (.getfield 159, 3) := by decide +kernel
theorem d_X11_feed_28 : decode cX11_feed 28 = .ok (.iload_n 1, 1) := by decide +kernel
theorem d_X11_feed_29 : decode cX11_feed 29 = .ok (.castore, 1) := by decide +kernel
theorem d_X11_feed_30 : decode cX11_feed 30 = .ok (.aload_n 0, 1) := by decide +kernel
theorem d_X11_feed_31 : decode cX11_feed 31 = .ok (.dup, 1) := by decide +kernel
theorem d_X11_feed_32 : decode cX11_feed 32 = .ok (.getfield 159, 3) := by decide +kernel
theorem d_X11_feed_35 : decode cX11_feed 35 = .ok (.iconst 1, 1) := by decide +kernel
theorem d_X11_feed_36 : decode cX11_feed 36 = .ok (.iadd, 1) := by decide +kernel
theorem d_X11_feed_37 : decode cX11_feed 37 = .ok (.putfield 159, 3) := by decide +kernel
theorem d_X11_feed_40 : decode cX11_feed 40 = .ok (.aload_n 0, 1) := by decide +kernel
theorem d_X11_feed_41 : decode cX11_feed 41 = .ok (.getfield 159, 3) := by decide +kernel
theorem d_X11_feed_44 : decode cX11_feed 44 = .ok (.ireturn, 1) := by decide +kernel
def f_X11_feed (F : Nat) (x1 : Int32) (M : sm_M) : Option (sm_O × sm_M) := if (M.1 0 10) < (240 : Int32) then (sm_g (sm_ib (M.1 0 10) 240) (some (.inl (some (.int (((sm_mi (sm_mi M 76 (M.1 0 10).toNatClampNeg (vp_nar .char x1)) 0 10 ((((sm_mi M 76 (M.1 0 10).toNatClampNeg (vp_nar .char x1))).1 0 10) + (1 : Int32)))).1 0 10))), (sm_mi (sm_mi M 76 (M.1 0 10).toNatClampNeg (vp_nar .char x1)) 0 10 ((((sm_mi M 76 (M.1 0 10).toNatClampNeg (vp_nar .char x1))).1 0 10) + (1 : Int32)))))) else (some (.inr "java/lang/IllegalStateException", M))
set_option maxRecDepth 100000 in
set_option maxHeartbeats 4000000 in
theorem j_X11_feed {sk : List sm_Sh} (hx : sm_ext skX sk) (F : Nat) : ∀ (x1 : Int32) (M : sm_M) (r : sm_O × sm_M), f_X11_feed F x1 M = some r → sm_J (md_X11_feed, 6, sk, r.1, r.2) 0 [some (.ref 0), some (.int x1)] [] M := by
  intro x1  M r h
  unfold f_X11_feed at h
  refine sm_aload_n (q := 1) d_X11_feed_0 rfl rfl ?_
  refine sm_geti (q := 4) d_X11_feed_1 rfl fl_X11_159 (hx sx_0) rfl ?_
  refine sm_sipush (q := 7) d_X11_feed_4 rfl cs_240 ?_
  refine sm_icmp_lt (q := 10) (t := 20) d_X11_feed_7 rfl rfl (fun c1 => ?_) (fun c1 => ?_)
  · replace h := sm_it c1 h
    refine sm_aload_n (q := 21) d_X11_feed_20 rfl rfl ?_
    refine sm_getr (q := 24) d_X11_feed_21 rfl fl_X11_72 (hx sx_0) rfl ?_
    refine sm_aload_n (q := 25) d_X11_feed_24 rfl rfl ?_
    refine sm_geti (q := 28) d_X11_feed_25 rfl fl_X11_159 (hx sx_0) rfl ?_
    refine sm_iload_n (q := 29) d_X11_feed_28 rfl rfl ?_
    obtain ⟨g2, h⟩ := sm_gt h
    refine sm_castore (q := 30) d_X11_feed_29 rfl (hx sx_76) (sm_ib_of g2) ?_
    refine sm_aload_n (q := 31) d_X11_feed_30 rfl rfl ?_
    refine sm_dup (q := 32) d_X11_feed_31 rfl rfl ?_
    refine sm_geti (q := 35) d_X11_feed_32 rfl fl_X11_159 (hx sx_0) rfl ?_
    refine sm_iconst (q := 36) d_X11_feed_35 rfl ci_1 ?_
    refine sm_iadd (q := 37) d_X11_feed_36 rfl ?_
    refine sm_puti (q := 40) d_X11_feed_37 rfl fw_X11_159 (hx sx_0) rfl rfl rfl ?_
    refine sm_aload_n (q := 41) d_X11_feed_40 rfl rfl ?_
    refine sm_geti (q := 44) d_X11_feed_41 rfl fl_X11_159 (hx sx_0) rfl ?_
    obtain rfl := Option.some.inj h
    exact sm_iret d_X11_feed_44 rfl rfl rfl rfl
  · replace h := sm_if c1 h
    obtain rfl := Option.some.inj h
    exact sm_throw lt_X11_131_162_135 d_X11_feed_10 d_X11_feed_13 d_X11_feed_14 d_X11_feed_16 d_X11_feed_19 (Nat.le_of_ble_eq_true rfl) (Nat.le_of_ble_eq_true rfl) rfl rfl
theorem c_X11_feed {sk : List sm_Sh} (hx : sm_ext skX sk) (F : Nat) (x1 : Int32) (M : sm_M) (r : sm_O × sm_M) (h : f_X11_feed F x1 M = some r) : sm_Ct yX11_feed md_X11_feed 6 sk [.ref 0, .int x1] M (r.1) r.2 := sm_enter 0 pn_X11 rfl (Nat.le_of_ble_eq_true rfl) rfl (j_X11_feed hx F x1 M r h)
/-! UniversalCycles.read()I -/
theorem d_X11_read_0 : decode cX11_read 0 = .ok (.aload_n 0, 1) := by decide +kernel
theorem d_X11_read_1 : decode cX11_read 1 = .ok (.getfield 159, 3) := by decide +kernel
theorem d_X11_read_4 : decode cX11_read 4 = .ok (.istore_n 1, 1) := by decide +kernel
theorem d_X11_read_5 : decode cX11_read 5 = .ok (.aload_n 0, 1) := by decide +kernel
theorem d_X11_read_6 : decode cX11_read 6 = .ok (.iconst 0, 1) := by decide +kernel
theorem d_X11_read_7 : decode cX11_read 7 = .ok (.putfield 159, 3) := by decide +kernel
theorem d_X11_read_10 : decode cX11_read 10 = .ok (.iconst 0, 1) := by decide +kernel
theorem d_X11_read_11 : decode cX11_read 11 = .ok (.istore_n 2, 1) := by decide +kernel
theorem d_X11_read_12 : decode cX11_read 12 = .ok (.iload_n 2, 1) := by decide +kernel
theorem d_X11_read_13 : decode cX11_read 13 = .ok (.iload_n 1, 1) := by decide +kernel
theorem d_X11_read_14 : decode cX11_read 14 = .ok (.if_icmp .ge 33, 3) := by decide +kernel
theorem d_X11_read_17 : decode cX11_read 17 = .ok (.aload_n 0, 1) := by decide +kernel
theorem d_X11_read_18 : decode cX11_read 18 = .ok (.getfield 10, 3) := by decide +kernel
theorem d_X11_read_21 : decode cX11_read 21 = .ok (.aload_n 0, 1) := by decide +kernel
theorem d_X11_read_22 : decode cX11_read 22 = .ok (.getfield 72, 3) := by decide +kernel
theorem d_X11_read_25 : decode cX11_read 25 = .ok (.iload_n 2, 1) := by decide +kernel
theorem d_X11_read_26 : decode cX11_read 26 = .ok (.caload, 1) := by decide +kernel
theorem d_X11_read_27 : decode cX11_read 27 = .ok (.bipush 48, 2) := by decide +kernel
theorem d_X11_read_29 : decode cX11_read 29 = .ok (.isub, 1) := by decide +kernel
theorem d_X11_read_30 : decode cX11_read 30 = .ok (.invokevirtual 164, 3) := by decide +kernel
theorem d_X11_read_33 : decode cX11_read 33 = .ok (.ifCond .ne 8, 3) := by decide +kernel
theorem d_X11_read_36 : decode cX11_read 36 = .ok (.bipush (-100), 2) := by decide +kernel
theorem d_X11_read_38 : decode cX11_read 38 = .ok (.iload_n 2, 1) := by decide +kernel
theorem d_X11_read_39 : decode cX11_read 39 = .ok (.isub, 1) := by decide +kernel
theorem d_X11_read_40 : decode cX11_read 40 = .ok (.ireturn, 1) := by decide +kernel
theorem d_X11_read_41 : decode cX11_read 41 = .ok (.iinc 2 1, 3) := by decide +kernel
theorem d_X11_read_44 : decode cX11_read 44 = .ok (.goto (-32), 3) := by decide +kernel
theorem d_X11_read_47 : decode cX11_read 47 = .ok (.aload_n 0, 1) := by decide +kernel
theorem d_X11_read_48 : decode cX11_read 48 = .ok (.getfield 33, 3) := by decide +kernel
theorem d_X11_read_51 : decode cX11_read 51 = .ok (.aload_n 0, 1) := by decide +kernel
theorem d_X11_read_52 : decode cX11_read 52 = .ok (.getfield 26, 3) := by decide +kernel
theorem d_X11_read_55 : decode cX11_read 55 = .ok (.invokevirtual 136, 3) := by decide +kernel
theorem d_X11_read_58 : decode cX11_read 58 = .ok (.pop, 1) := by decide +kernel
theorem d_X11_read_59 : decode cX11_read 59 = .ok (.aload_n 0, 1) := by decide +kernel
theorem d_X11_read_60 : decode cX11_read 60 = .ok (.getfield 26, 3) := by decide +kernel
theorem d_X11_read_63 : decode cX11_read 63 = .ok (.iconst 0, 1) := by decide +kernel
theorem d_X11_read_64 : decode cX11_read 64 = .ok (.putfield 130, 3) := by decide +kernel
theorem d_X11_read_67 : decode cX11_read 67 = .ok (.iconst 0, 1) := by decide +kernel
theorem d_X11_read_68 : decode cX11_read 68 = .ok (.istore_n 2, 1) := by decide +kernel
theorem d_X11_read_69 : decode cX11_read 69 = .ok (.iload_n 2, 1) := by decide +kernel
theorem d_X11_read_70 : decode cX11_read 70 = .ok (.iload_n 1, 1) := by decide +kernel
theorem d_X11_read_71 : decode cX11_read 71 = .ok (.if_icmp .ge 25, 3) := by decide +kernel
theorem d_X11_read_74 : decode cX11_read 74 = .ok (.aload_n 0, 1) := by decide +kernel
theorem d_X11_read_75 : decode cX11_read 75 = .ok (.getfield 26, 3) := by decide +kernel
theorem d_X11_read_78 : decode cX11_read 78 = .ok (.aload_n 0, 1) := by decide +kernel
theorem d_X11_read_79 : decode cX11_read 79 = .ok (.getfield 72, 3) := by decide +kernel
theorem d_X11_read_82 : decode cX11_read 82 = .ok (.iload_n 2, 1) := by decide +kernel
theorem d_X11_read_83 : decode cX11_read 83 = .ok (.caload, 1) := by decide +kernel
theorem d_X11_read_84 : decode cX11_read 84 = .ok (.bipush 48, 2) := by decide +kernel
theorem d_X11_read_86 : decode cX11_read 86 = .ok (.isub, 1) := by decide +kernel
theorem d_X11_read_87 : decode cX11_read 87 = .ok (.invokevirtual 140, 3) := by decide +kernel
theorem d_X11_read_90 : decode cX11_read 90 = .ok (.iinc 2 1, 3) := by decide +kernel
theorem d_X11_read_93 : decode cX11_read 93 = .ok (.goto (-24), 3) := by decide +kernel
theorem d_X11_read_96 : decode cX11_read 96 = .ok (.aload_n 0, 1) := by decide +kernel
theorem d_X11_read_97 : decode cX11_read 97 = .ok (.getfield 26, 3) := by decide +kernel
theorem d_X11_read_100 : decode cX11_read 100 = .ok (.getfield 130, 3) := by decide +kernel
theorem d_X11_read_103 : decode cX11_read 103 = .ok (.ireturn, 1) := by decide +kernel
def f_X11_read_69b (F : Nat) (kb69 : Int32 → Int32 → sm_M → Option (Int32 × sm_M)) (x1 : Int32) (x2 : Int32) (M : sm_M) : Option (Int32 × sm_M) := if x1 ≤ x2 then (some ((M.1 24 1), M)) else (sm_g (sm_ib x2 240) ((f_X7_push F 24 ((M.1 76 x2.toNatClampNeg) - (48 : Int32)) M).bind fun q3 => kb69 x1 (x2 + 1) q3))
set_option maxRecDepth 100000 in
set_option maxHeartbeats 4000000 in
theorem j_X11_read_69b {sk : List sm_Sh} (hx : sm_ext skX sk) (F : Nat) (kb69 : Int32 → Int32 → sm_M → Option (Int32 × sm_M)) (hkb69 : ∀ (x1 : Int32) (x2 : Int32) (M : sm_M) (r : Int32 × sm_M), kb69 x1 x2 M = some r → sm_J (md_X11_read, 3, sk, .inl (some (.int r.1)), r.2) 69 [some (.ref 0), some (.int x1), some (.int x2)] [] M) : ∀ (x1 : Int32) (x2 : Int32) (M : sm_M) (r : Int32 × sm_M), f_X11_read_69b F kb69 x1 x2 M = some r → sm_J (md_X11_read, 3, sk, .inl (some (.int r.1)), r.2) 69 [some (.ref 0), some (.int x1), some (.int x2)] [] M := by
  intro x1 x2  M r h
  unfold f_X11_read_69b at h
  refine sm_iload_n (q := 70) d_X11_read_69 rfl rfl ?_
  refine sm_iload_n (q := 71) d_X11_read_70 rfl rfl ?_
  refine sm_icmp_ge (q := 74) (t := 96) d_X11_read_71 rfl rfl (fun c1 => ?_) (fun c1 => ?_)
  · replace h := sm_it c1 h
    refine sm_aload_n (q := 97) d_X11_read_96 rfl rfl ?_
    refine sm_getr (q := 100) d_X11_read_97 rfl fl_X11_26 (hx sx_0) rfl ?_
    refine sm_geti (q := 103) d_X11_read_100 rfl fl_X11_130 (hx sx_24) rfl ?_
    obtain rfl := Option.some.inj h
    exact sm_iret d_X11_read_103 rfl rfl rfl rfl
  · replace h := sm_if c1 h
    refine sm_aload_n (q := 75) d_X11_read_74 rfl rfl ?_
    refine sm_getr (q := 78) d_X11_read_75 rfl fl_X11_26 (hx sx_0) rfl ?_
    refine sm_aload_n (q := 79) d_X11_read_78 rfl rfl ?_
    refine sm_getr (q := 82) d_X11_read_79 rfl fl_X11_72 (hx sx_0) rfl ?_
    refine sm_iload_n (q := 83) d_X11_read_82 rfl rfl ?_
    obtain ⟨g2, h⟩ := sm_gt h
    refine sm_caload (q := 84) d_X11_read_83 rfl (hx sx_76) (sm_ib_of g2) ?_
    refine sm_bipush (q := 86) d_X11_read_84 rfl cb_48 ?_
    refine sm_isub (q := 87) d_X11_read_86 rfl ?_
    obtain ⟨q3, e3, h⟩ := sm_bd h
    refine sm_callV (q := 90) (d' := 0) [] [.int ((M.1 76 x2.toNatClampNeg) - (48 : Int32))] d_X11_read_87 rfl lk_X11_140 (hx sx_24) rfl rfl rfl (Nat.le_of_ble_eq_true rfl) (Nat.le_of_ble_eq_true rfl) (c_X7_push hx F 24 ⟨hx sx_24, hx sx_25⟩ ((M.1 76 x2.toNatClampNeg) - (48 : Int32)) M _ e3) (st9 := []) rfl ?_
    refine sm_iinc (q := 93) (v := (x2 + 1)) (lt := [some (.ref 0), some (.int x1), some (.int (x2 + 1))]) d_X11_read_90 rfl rfl (ii_1 _) (Nat.le_of_ble_eq_true rfl) rfl rfl ?_
    refine sm_goto (t := 69) d_X11_read_93 rfl ?_
    exact hkb69 x1 (x2 + 1) q3 _ h
def f_X11_read_69 (F : Nat) (n : Nat) : Int32 → Int32 → sm_M → Option (Int32 × sm_M) := match n with
 | 0 => fun _ _ _ => none
 | n + 1 => f_X11_read_69b F (f_X11_read_69 F n)
theorem j_X11_read_69 {sk : List sm_Sh} (hx : sm_ext skX sk) (F : Nat) : ∀ (n : Nat) (x1 : Int32) (x2 : Int32) (M : sm_M) (r : Int32 × sm_M), f_X11_read_69 F n x1 x2 M = some r → sm_J (md_X11_read, 3, sk, .inl (some (.int r.1)), r.2) 69 [some (.ref 0), some (.int x1), some (.int x2)] [] M := by
  intro n
  induction n with
  | zero => intro x1 x2  M r h; exact nomatch (show (none : Option (Int32 × sm_M)) = some r from h)
  | succ n ih => exact j_X11_read_69b hx F (f_X11_read_69 F n) ih
def f_X11_read_12b (F : Nat) (kb12 : Int32 → Int32 → sm_M → Option (Int32 × sm_M)) (x1 : Int32) (x2 : Int32) (M : sm_M) : Option (Int32 × sm_M) := if x1 ≤ x2 then ((f_X6_remember F 24 M).bind fun q2 => f_X11_read_69 F F x1 (0 : Int32) ((sm_mi q2.2 24 1 (0 : Int32)))) else (sm_g (sm_ib x2 240) ((f_X2_hasSymbol F ((M.1 76 x2.toNatClampNeg) - (48 : Int32)) M).bind fun q4 => if q4 = 0 then (some (((-100 : Int32) - x2), M)) else (kb12 x1 (x2 + 1) M)))
set_option maxRecDepth 100000 in
set_option maxHeartbeats 4000000 in
theorem j_X11_read_12b {sk : List sm_Sh} (hx : sm_ext skX sk) (F : Nat) (kb12 : Int32 → Int32 → sm_M → Option (Int32 × sm_M)) (hkb12 : ∀ (x1 : Int32) (x2 : Int32) (M : sm_M) (r : Int32 × sm_M), kb12 x1 x2 M = some r → sm_J (md_X11_read, 3, sk, .inl (some (.int r.1)), r.2) 12 [some (.ref 0), some (.int x1), some (.int x2)] [] M) : ∀ (x1 : Int32) (x2 : Int32) (M : sm_M) (r : Int32 × sm_M), f_X11_read_12b F kb12 x1 x2 M = some r → sm_J (md_X11_read, 3, sk, .inl (some (.int r.1)), r.2) 12 [some (.ref 0), some (.int x1), some (.int x2)] [] M := by
  intro x1 x2  M r h
  unfold f_X11_read_12b at h
  refine sm_iload_n (q := 13) d_X11_read_12 rfl rfl ?_
  refine sm_iload_n (q := 14) d_X11_read_13 rfl rfl ?_
  refine sm_icmp_ge (q := 17) (t := 47) d_X11_read_14 rfl rfl (fun c1 => ?_) (fun c1 => ?_)
  · replace h := sm_it c1 h
    refine sm_aload_n (q := 48) d_X11_read_47 rfl rfl ?_
    refine sm_getr (q := 51) d_X11_read_48 rfl fl_X11_33 (hx sx_0) rfl ?_
    refine sm_aload_n (q := 52) d_X11_read_51 rfl rfl ?_
    refine sm_getr (q := 55) d_X11_read_52 rfl fl_X11_26 (hx sx_0) rfl ?_
    obtain ⟨q2, e2, h⟩ := sm_bd h
    refine sm_callV (q := 58) (d' := 2) [] [.ref 24] d_X11_read_55 rfl lk_X11_136 (hx sx_26) rfl rfl rfl (Nat.le_of_ble_eq_true rfl) (Nat.le_of_ble_eq_true rfl) (c_X6_remember hx F 24 ⟨hx sx_24, hx sx_25⟩ M _ e2) (st9 := [.ref q2.1]) rfl ?_
    refine sm_pop (q := 59) d_X11_read_58 rfl rfl ?_
    refine sm_aload_n (q := 60) d_X11_read_59 rfl rfl ?_
    refine sm_getr (q := 63) d_X11_read_60 rfl fl_X11_26 (hx sx_0) rfl ?_
    refine sm_iconst (q := 64) d_X11_read_63 rfl ci_0 ?_
    refine sm_puti (q := 67) d_X11_read_64 rfl fw_X11_130 (hx sx_24) rfl rfl rfl ?_
    refine sm_iconst (q := 68) d_X11_read_67 rfl ci_0 ?_
    refine sm_istore_n (q := 69) (lt := [some (.ref 0), some (.int x1), some (.int (0 : Int32))]) d_X11_read_68 rfl (Nat.le_of_ble_eq_true rfl) rfl rfl ?_
    exact j_X11_read_69 hx F F x1 (0 : Int32) ((sm_mi q2.2 24 1 (0 : Int32))) _ h
  · replace h := sm_if c1 h
    refine sm_aload_n (q := 18) d_X11_read_17 rfl rfl ?_
    refine sm_getr (q := 21) d_X11_read_18 rfl fl_X11_10 (hx sx_0) rfl ?_
    refine sm_aload_n (q := 22) d_X11_read_21 rfl rfl ?_
    refine sm_getr (q := 25) d_X11_read_22 rfl fl_X11_72 (hx sx_0) rfl ?_
    refine sm_iload_n (q := 26) d_X11_read_25 rfl rfl ?_
    obtain ⟨g3, h⟩ := sm_gt h
    refine sm_caload (q := 27) d_X11_read_26 rfl (hx sx_76) (sm_ib_of g3) ?_
    refine sm_bipush (q := 29) d_X11_read_27 rfl cb_48 ?_
    refine sm_isub (q := 30) d_X11_read_29 rfl ?_
    obtain ⟨q4, e4, h⟩ := sm_bd h
    refine sm_callV (q := 33) (d' := 0) [] [.int ((M.1 76 x2.toNatClampNeg) - (48 : Int32))] d_X11_read_30 rfl lk_X11_164 (hx sx_1) rfl rfl rfl (Nat.le_of_ble_eq_true rfl) (Nat.le_of_ble_eq_true rfl) (c_X2_hasSymbol hx F ((M.1 76 x2.toNatClampNeg) - (48 : Int32)) M _ e4) (st9 := [.int q4]) rfl ?_
    refine sm_if_ne (q := 36) (t := 41) d_X11_read_33 rfl rfl (fun c5 => ?_) (fun c5 => ?_)
    · replace h := sm_if c5 h
      refine sm_iinc (q := 44) (v := (x2 + 1)) (lt := [some (.ref 0), some (.int x1), some (.int (x2 + 1))]) d_X11_read_41 rfl rfl (ii_1 _) (Nat.le_of_ble_eq_true rfl) rfl rfl ?_
      refine sm_goto (t := 12) d_X11_read_44 rfl ?_
      exact hkb12 x1 (x2 + 1) M _ h
    · replace h := sm_it c5 h
      refine sm_bipush (q := 38) d_X11_read_36 rfl cb_m100 ?_
      refine sm_iload_n (q := 39) d_X11_read_38 rfl rfl ?_
      refine sm_isub (q := 40) d_X11_read_39 rfl ?_
      obtain rfl := Option.some.inj h
      exact sm_iret d_X11_read_40 rfl rfl rfl rfl
def f_X11_read_12 (F : Nat) (n : Nat) : Int32 → Int32 → sm_M → Option (Int32 × sm_M) := match n with
 | 0 => fun _ _ _ => none
 | n + 1 => f_X11_read_12b F (f_X11_read_12 F n)
theorem j_X11_read_12 {sk : List sm_Sh} (hx : sm_ext skX sk) (F : Nat) : ∀ (n : Nat) (x1 : Int32) (x2 : Int32) (M : sm_M) (r : Int32 × sm_M), f_X11_read_12 F n x1 x2 M = some r → sm_J (md_X11_read, 3, sk, .inl (some (.int r.1)), r.2) 12 [some (.ref 0), some (.int x1), some (.int x2)] [] M := by
  intro n
  induction n with
  | zero => intro x1 x2  M r h; exact nomatch (show (none : Option (Int32 × sm_M)) = some r from h)
  | succ n ih => exact j_X11_read_12b hx F (f_X11_read_12 F n) ih
def f_X11_read (F : Nat) (M : sm_M) : Option (Int32 × sm_M) := f_X11_read_12 F F (M.1 0 10) (0 : Int32) ((sm_mi M 0 10 (0 : Int32)))
set_option maxRecDepth 100000 in
set_option maxHeartbeats 4000000 in
theorem j_X11_read {sk : List sm_Sh} (hx : sm_ext skX sk) (F : Nat) : ∀ (M : sm_M) (r : Int32 × sm_M), f_X11_read F M = some r → sm_J (md_X11_read, 3, sk, .inl (some (.int r.1)), r.2) 0 [some (.ref 0), none, none] [] M := by
  intro   M r h
  unfold f_X11_read at h
  refine sm_aload_n (q := 1) d_X11_read_0 rfl rfl ?_
  refine sm_geti (q := 4) d_X11_read_1 rfl fl_X11_159 (hx sx_0) rfl ?_
  refine sm_istore_n (q := 5) (lt := [some (.ref 0), some (.int (M.1 0 10)), none]) d_X11_read_4 rfl (Nat.le_of_ble_eq_true rfl) rfl rfl ?_
  refine sm_aload_n (q := 6) d_X11_read_5 rfl rfl ?_
  refine sm_iconst (q := 7) d_X11_read_6 rfl ci_0 ?_
  refine sm_puti (q := 10) d_X11_read_7 rfl fw_X11_159 (hx sx_0) rfl rfl rfl ?_
  refine sm_iconst (q := 11) d_X11_read_10 rfl ci_0 ?_
  refine sm_istore_n (q := 12) (lt := [some (.ref 0), some (.int (M.1 0 10)), some (.int (0 : Int32))]) d_X11_read_11 rfl (Nat.le_of_ble_eq_true rfl) rfl rfl ?_
  exact j_X11_read_12 hx F F (M.1 0 10) (0 : Int32) ((sm_mi M 0 10 (0 : Int32))) _ h
theorem c_X11_read {sk : List sm_Sh} (hx : sm_ext skX sk) (F : Nat) (M : sm_M) (r : Int32 × sm_M) (h : f_X11_read F M = some r) : sm_Ct yX11_read md_X11_read 3 sk [.ref 0] M (.inl (some (.int r.1))) r.2 := sm_enter 2 pn_X11 rfl (Nat.le_of_ble_eq_true rfl) rfl (j_X11_read hx F M r h)
/-! UniversalCycles.write()I -/
theorem d_X11_write_0 : decode cX11_write 0 = .ok (.iconst 0, 1) := by decide +kernel
theorem d_X11_write_1 : decode cX11_write 1 = .ok (.istore_n 1, 1) := by decide +kernel
theorem d_X11_write_2 : decode cX11_write 2 = .ok (.iload_n 1, 1) := by decide +kernel
theorem d_X11_write_3 : decode cX11_write 3 = .ok (.aload_n 0, 1) := by decide +kernel
theorem d_X11_write_4 : decode cX11_write 4 = .ok (.getfield 26, 3) := by decide +kernel
theorem d_X11_write_7 : decode cX11_write 7 = .ok (.getfield 130, 3) := by decide +kernel
theorem d_X11_write_10 : decode cX11_write 10 = .ok (.if_icmp .ge 28, 3) := by decide +kernel
theorem d_X11_write_13 : decode cX11_write 13 = .ok (.aload_n 0, 1) := by decide +kernel
theorem d_X11_write_14 : decode cX11_write 14 = .ok (.getfield 76, 3) := by decide +kernel
theorem d_X11_write_17 : decode cX11_write 17 = .ok (.iload_n 1, 1) := by decide +kernel
theorem d_X11_write_18 : decode cX11_write 18 = .ok (.bipush 48, 2) := by decide +kernel
theorem d_X11_write_20 : decode cX11_write 20 = .ok (.aload_n 0, 1) := by decide +kernel
theorem d_X11_write_21 : decode cX11_write 21 = .ok (.getfield 26, 3) := by decide +kernel
theorem d_X11_write_24 : decode cX11_write 24 = .ok (.getfield 146, 3) := by decide +kernel
theorem d_X11_write_27 : decode cX11_write 27 = .ok (.iload_n 1, 1) := by decide +kernel
theorem d_X11_write_28 : decode cX11_write 28 = .ok (.iaload, 1) := by decide +kernel
theorem d_X11_write_29 : decode cX11_write 29 = .ok (.iadd, 1) := by decide +kernel
theorem d_X11_write_30 : decode cX11_write 30 = .ok (.i2c, 1) := by decide +kernel
theorem d_X11_write_31 : decode cX11_write 31 = .ok (.castore, 1) := by decide +kernel
theorem d_X11_write_32 : decode cX11_write 32 = .ok (.iinc 1 1, 3) := by decide +kernel
theorem d_X11_write_35 : decode cX11_write 35 = .ok (.goto (-33), 3) := by decide +kernel
theorem d_X11_write_38 : decode cX11_write 38 = .ok (.aload_n 0, 1) := by decide +kernel
theorem d_X11_write_39 : decode cX11_write 39 = .ok (.aload_n 0, 1) := by decide +kernel
theorem d_X11_write_40 : decode cX11_write 40 = .ok (.getfield 26, 3) := by decide +kernel
theorem d_X11_write_43 : decode cX11_write 43 = .ok (.getfield 130, 3) := by decide +kernel
theorem d_X11_write_46 : decode cX11_write 46 = .ok (.putfield 168, 3) := by decide +kernel
theorem d_X11_write_49 : decode cX11_write 49 = .ok (.aload_n 0, 1) := by decide +kernel
theorem d_X11_write_50 : decode cX11_write 50 = .ok (.getfield 168, 3) := by decide +kernel
theorem d_X11_write_53 : decode cX11_write 53 = .ok (.ireturn, 1) := by decide +kernel
def f_X11_write_2b (F : Nat) (kb2 : Int32 → sm_M → Option (Int32 × sm_M)) (x1 : Int32) (M : sm_M) : Option (Int32 × sm_M) := if (M.1 24 1) ≤ x1 then (some ((((sm_mi M 0 12 (M.1 24 1))).1 0 12), (sm_mi M 0 12 (M.1 24 1)))) else (sm_g (sm_ib x1 240) (sm_g (sm_ib x1 240) (kb2 (x1 + 1) ((sm_mi M 77 x1.toNatClampNeg (vp_nar .char (((48 : Int32) + (M.1 25 x1.toNatClampNeg)).toUInt32 % 65536).toInt32))))))
set_option maxRecDepth 100000 in
set_option maxHeartbeats 4000000 in
theorem j_X11_write_2b {sk : List sm_Sh} (hx : sm_ext skX sk) (F : Nat) (kb2 : Int32 → sm_M → Option (Int32 × sm_M)) (hkb2 : ∀ (x1 : Int32) (M : sm_M) (r : Int32 × sm_M), kb2 x1 M = some r → sm_J (md_X11_write, 0, sk, .inl (some (.int r.1)), r.2) 2 [some (.ref 0), some (.int x1)] [] M) : ∀ (x1 : Int32) (M : sm_M) (r : Int32 × sm_M), f_X11_write_2b F kb2 x1 M = some r → sm_J (md_X11_write, 0, sk, .inl (some (.int r.1)), r.2) 2 [some (.ref 0), some (.int x1)] [] M := by
  intro x1  M r h
  unfold f_X11_write_2b at h
  refine sm_iload_n (q := 3) d_X11_write_2 rfl rfl ?_
  refine sm_aload_n (q := 4) d_X11_write_3 rfl rfl ?_
  refine sm_getr (q := 7) d_X11_write_4 rfl fl_X11_26 (hx sx_0) rfl ?_
  refine sm_geti (q := 10) d_X11_write_7 rfl fl_X11_130 (hx sx_24) rfl ?_
  refine sm_icmp_ge (q := 13) (t := 38) d_X11_write_10 rfl rfl (fun c1 => ?_) (fun c1 => ?_)
  · replace h := sm_it c1 h
    refine sm_aload_n (q := 39) d_X11_write_38 rfl rfl ?_
    refine sm_aload_n (q := 40) d_X11_write_39 rfl rfl ?_
    refine sm_getr (q := 43) d_X11_write_40 rfl fl_X11_26 (hx sx_0) rfl ?_
    refine sm_geti (q := 46) d_X11_write_43 rfl fl_X11_130 (hx sx_24) rfl ?_
    refine sm_puti (q := 49) d_X11_write_46 rfl fw_X11_168 (hx sx_0) rfl rfl rfl ?_
    refine sm_aload_n (q := 50) d_X11_write_49 rfl rfl ?_
    refine sm_geti (q := 53) d_X11_write_50 rfl fl_X11_168 (hx sx_0) rfl ?_
    obtain rfl := Option.some.inj h
    exact sm_iret d_X11_write_53 rfl rfl rfl rfl
  · replace h := sm_if c1 h
    refine sm_aload_n (q := 14) d_X11_write_13 rfl rfl ?_
    refine sm_getr (q := 17) d_X11_write_14 rfl fl_X11_76 (hx sx_0) rfl ?_
    refine sm_iload_n (q := 18) d_X11_write_17 rfl rfl ?_
    refine sm_bipush (q := 20) d_X11_write_18 rfl cb_48 ?_
    refine sm_aload_n (q := 21) d_X11_write_20 rfl rfl ?_
    refine sm_getr (q := 24) d_X11_write_21 rfl fl_X11_26 (hx sx_0) rfl ?_
    refine sm_getr (q := 27) d_X11_write_24 rfl fl_X11_146 (hx sx_24) rfl ?_
    refine sm_iload_n (q := 28) d_X11_write_27 rfl rfl ?_
    obtain ⟨g2, h⟩ := sm_gt h
    refine sm_iaload (q := 29) d_X11_write_28 rfl (hx sx_25) (sm_ib_of g2) ?_
    refine sm_iadd (q := 30) d_X11_write_29 rfl ?_
    refine sm_i2c (q := 31) d_X11_write_30 rfl ?_
    obtain ⟨g3, h⟩ := sm_gt h
    refine sm_castore (q := 32) d_X11_write_31 rfl (hx sx_77) (sm_ib_of g3) ?_
    refine sm_iinc (q := 35) (v := (x1 + 1)) (lt := [some (.ref 0), some (.int (x1 + 1))]) d_X11_write_32 rfl rfl (ii_1 _) (Nat.le_of_ble_eq_true rfl) rfl rfl ?_
    refine sm_goto (t := 2) d_X11_write_35 rfl ?_
    exact hkb2 (x1 + 1) ((sm_mi M 77 x1.toNatClampNeg (vp_nar .char (((48 : Int32) + (M.1 25 x1.toNatClampNeg)).toUInt32 % 65536).toInt32))) _ h
def f_X11_write_2 (F : Nat) (n : Nat) : Int32 → sm_M → Option (Int32 × sm_M) := match n with
 | 0 => fun _ _ => none
 | n + 1 => f_X11_write_2b F (f_X11_write_2 F n)
theorem j_X11_write_2 {sk : List sm_Sh} (hx : sm_ext skX sk) (F : Nat) : ∀ (n : Nat) (x1 : Int32) (M : sm_M) (r : Int32 × sm_M), f_X11_write_2 F n x1 M = some r → sm_J (md_X11_write, 0, sk, .inl (some (.int r.1)), r.2) 2 [some (.ref 0), some (.int x1)] [] M := by
  intro n
  induction n with
  | zero => intro x1  M r h; exact nomatch (show (none : Option (Int32 × sm_M)) = some r from h)
  | succ n ih => exact j_X11_write_2b hx F (f_X11_write_2 F n) ih
def f_X11_write (F : Nat) (M : sm_M) : Option (Int32 × sm_M) := f_X11_write_2 F F (0 : Int32) M
set_option maxRecDepth 100000 in
set_option maxHeartbeats 4000000 in
theorem j_X11_write {sk : List sm_Sh} (hx : sm_ext skX sk) (F : Nat) : ∀ (M : sm_M) (r : Int32 × sm_M), f_X11_write F M = some r → sm_J (md_X11_write, 0, sk, .inl (some (.int r.1)), r.2) 0 [some (.ref 0), none] [] M := by
  intro   M r h
  unfold f_X11_write at h
  refine sm_iconst (q := 1) d_X11_write_0 rfl ci_0 ?_
  refine sm_istore_n (q := 2) (lt := [some (.ref 0), some (.int (0 : Int32))]) d_X11_write_1 rfl (Nat.le_of_ble_eq_true rfl) rfl rfl ?_
  exact j_X11_write_2 hx F F (0 : Int32) M _ h
theorem c_X11_write {sk : List sm_Sh} (hx : sm_ext skX sk) (F : Nat) (M : sm_M) (r : Int32 × sm_M) (h : f_X11_write F M = some r) : sm_Ct yX11_write md_X11_write 0 sk [.ref 0] M (.inl (some (.int r.1))) r.2 := sm_enter 1 pn_X11 rfl (Nat.le_of_ble_eq_true rfl) rfl (j_X11_write hx F M r h)
/-! UniversalCycles.outputAt(I)C -/
theorem d_X11_outputAt_0 : decode cX11_outputAt 0 = .ok (.iload_n 1, 1) := by decide +kernel
theorem d_X11_outputAt_1 : decode cX11_outputAt 1 = .ok (.ifCond .lt 11, 3) := by decide +kernel
theorem d_X11_outputAt_4 : decode cX11_outputAt 4 = .ok (.iload_n 1, 1) := by decide +kernel
theorem d_X11_outputAt_5 : decode cX11_outputAt 5 = .ok (.aload_n 0, 1) := by decide +kernel
theorem d_X11_outputAt_6 : decode cX11_outputAt 6 = .ok (.getfield 168, 3) := by decide +kernel
theorem d_X11_outputAt_9 : decode cX11_outputAt 9 = .ok (.if_icmp .lt 13, 3) := by decide +kernel
theorem d_X11_outputAt_12 : decode cX11_outputAt 12 = .ok (.new 114, 3) := by decide +kernel
theorem d_X11_outputAt_15 : decode cX11_outputAt 15 = .ok (.dup, 1) := by decide +kernel
theorem d_X11_outputAt_16 : decode cX11_outputAt 16 = .ok (.ldc 116, 2) := by decide +kernel
theorem d_X11_outputAt_18 : decode cX11_outputAt 18 = .ok (.invokespecial 118, 3) := by decide +kernel
theorem d_X11_outputAt_21 : decode cX11_outputAt 21 = .ok (.athrow, 1) := by decide +kernel
theorem d_X11_outputAt_22 : decode cX11_outputAt 22 = .ok (.aload_n 0, 1) := by decide +kernel
theorem d_X11_outputAt_23 : decode cX11_outputAt 23 = .ok (.getfield 76, 3) := by decide +kernel
theorem d_X11_outputAt_26 : decode cX11_outputAt 26 = .ok (.iload_n 1, 1) := by decide +kernel
theorem d_X11_outputAt_27 : decode cX11_outputAt 27 = .ok (.caload, 1) := by decide +kernel
theorem d_X11_outputAt_28 : decode cX11_outputAt 28 = .ok (.ireturn, 1) := by decide +kernel
def f_X11_outputAt_12 (F : Nat) (M : sm_M) : Option (sm_O × sm_M) := some (.inr "java/lang/IndexOutOfBoundsException", M)
set_option maxRecDepth 100000 in
set_option maxHeartbeats 4000000 in
theorem j_X11_outputAt_12 {sk : List sm_Sh} (hx : sm_ext skX sk) (F : Nat) : ∀ (M : sm_M) (r : sm_O × sm_M), f_X11_outputAt_12 F M = some r → sm_J (md_X11_outputAt, 6, sk, r.1, r.2) 12 [none, none] [] M := by
  intro   M r h
  unfold f_X11_outputAt_12 at h
  obtain rfl := Option.some.inj h
  exact sm_throw lt_X11_114_116_118 d_X11_outputAt_12 d_X11_outputAt_15 d_X11_outputAt_16 d_X11_outputAt_18 d_X11_outputAt_21 (Nat.le_of_ble_eq_true rfl) (Nat.le_of_ble_eq_true rfl) rfl rfl
def f_X11_outputAt (F : Nat) (x1 : Int32) (M : sm_M) : Option (sm_O × sm_M) := if x1 < 0 then (f_X11_outputAt_12 F M) else (if x1 < (M.1 0 12) then (sm_g (sm_ib x1 240) (sm_g (sm_nar .char (M.1 77 x1.toNatClampNeg)) (some (.inl (some (.int (M.1 77 x1.toNatClampNeg))), M)))) else (f_X11_outputAt_12 F M))
set_option maxRecDepth 100000 in
set_option maxHeartbeats 4000000 in
theorem j_X11_outputAt {sk : List sm_Sh} (hx : sm_ext skX sk) (F : Nat) : ∀ (x1 : Int32) (M : sm_M) (r : sm_O × sm_M), f_X11_outputAt F x1 M = some r → sm_J (md_X11_outputAt, 6, sk, r.1, r.2) 0 [some (.ref 0), some (.int x1)] [] M := by
  intro x1  M r h
  unfold f_X11_outputAt at h
  refine sm_iload_n (q := 1) d_X11_outputAt_0 rfl rfl ?_
  refine sm_if_lt (q := 4) (t := 12) d_X11_outputAt_1 rfl rfl (fun c1 => ?_) (fun c1 => ?_)
  · replace h := sm_it c1 h
    refine sm_fg [0, 1] ?_
    exact j_X11_outputAt_12 hx F M _ h
  · replace h := sm_if c1 h
    refine sm_iload_n (q := 5) d_X11_outputAt_4 rfl rfl ?_
    refine sm_aload_n (q := 6) d_X11_outputAt_5 rfl rfl ?_
    refine sm_geti (q := 9) d_X11_outputAt_6 rfl fl_X11_168 (hx sx_0) rfl ?_
    refine sm_icmp_lt (q := 12) (t := 22) d_X11_outputAt_9 rfl rfl (fun c2 => ?_) (fun c2 => ?_)
    · replace h := sm_it c2 h
      refine sm_aload_n (q := 23) d_X11_outputAt_22 rfl rfl ?_
      refine sm_getr (q := 26) d_X11_outputAt_23 rfl fl_X11_76 (hx sx_0) rfl ?_
      refine sm_iload_n (q := 27) d_X11_outputAt_26 rfl rfl ?_
      obtain ⟨g3, h⟩ := sm_gt h
      refine sm_caload (q := 28) d_X11_outputAt_27 rfl (hx sx_77) (sm_ib_of g3) ?_
      obtain ⟨g4, h⟩ := sm_gt h
      obtain rfl := Option.some.inj h
      exact sm_iret d_X11_outputAt_28 rfl (sm_nar_of g4).1 rfl rfl
    · replace h := sm_if c2 h
      refine sm_fg [0, 1] ?_
      exact j_X11_outputAt_12 hx F M _ h
theorem c_X11_outputAt {sk : List sm_Sh} (hx : sm_ext skX sk) (F : Nat) (x1 : Int32) (M : sm_M) (r : sm_O × sm_M) (h : f_X11_outputAt F x1 M = some r) : sm_Ct yX11_outputAt md_X11_outputAt 6 sk [.ref 0, .int x1] M (r.1) r.2 := sm_enter 0 pn_X11 rfl (Nat.le_of_ble_eq_true rfl) rfl (j_X11_outputAt hx F x1 M r h)
/-! UniversalCycles.shownAt(I)I -/
theorem d_X11_shownAt_0 : decode cX11_shownAt 0 = .ok (.aload_n 0, 1) := by decide +kernel
theorem d_X11_shownAt_1 : decode cX11_shownAt 1 = .ok (.iload_n 1, 1) := by decide +kernel
theorem d_X11_shownAt_2 : decode cX11_shownAt 2 = .ok (.invokevirtual 143, 3) := by decide +kernel
theorem d_X11_shownAt_5 : decode cX11_shownAt 5 = .ok (.aload_n 0, 1) := by decide +kernel
theorem d_X11_shownAt_6 : decode cX11_shownAt 6 = .ok (.getfield 10, 3) := by decide +kernel
theorem d_X11_shownAt_9 : decode cX11_shownAt 9 = .ok (.aload_n 0, 1) := by decide +kernel
theorem d_X11_shownAt_10 : decode cX11_shownAt 10 = .ok (.getfield 26, 3) := by decide +kernel
theorem d_X11_shownAt_13 : decode cX11_shownAt 13 = .ok (.iload_n 1, 1) := by decide +kernel
theorem d_X11_shownAt_14 : decode cX11_shownAt 14 = .ok (.invokevirtual 171, 3) := by decide +kernel
theorem d_X11_shownAt_17 : decode cX11_shownAt 17 = .ok (.ireturn, 1) := by decide +kernel
def f_X11_shownAt (F : Nat) (x1 : Int32) (M : sm_M) : Option (sm_O × sm_M) := sm_bx (f_X11_needPosition F x1 M) (fun M2 => (f_X2_shownBy F 24 x1 M2).bind fun q4 => some (.inl (some (.int q4)), M2))
set_option maxRecDepth 100000 in
set_option maxHeartbeats 4000000 in
theorem j_X11_shownAt {sk : List sm_Sh} (hx : sm_ext skX sk) (F : Nat) : ∀ (x1 : Int32) (M : sm_M) (r : sm_O × sm_M), f_X11_shownAt F x1 M = some r → sm_J (md_X11_shownAt, 7, sk, r.1, r.2) 0 [some (.ref 0), some (.int x1)] [] M := by
  intro x1  M r h
  unfold f_X11_shownAt at h
  refine sm_aload_n (q := 1) d_X11_shownAt_0 rfl rfl ?_
  refine sm_iload_n (q := 2) d_X11_shownAt_1 rfl rfl ?_
  rcases sm_bxs h with ⟨v3, M2, e1, h⟩ | ⟨v3, M2, e1, rfl⟩
  · obtain rfl := n_X11_needPosition e1
    refine sm_callV (q := 5) (d' := 6) [] [.int x1] d_X11_shownAt_2 rfl lk_X11_143 (hx sx_0) rfl rfl rfl (Nat.le_of_ble_eq_true rfl) (Nat.le_of_ble_eq_true rfl) (c_X11_needPosition hx F x1 M (.inl none, M2) e1) (st9 := []) rfl ?_
    refine sm_aload_n (q := 6) d_X11_shownAt_5 rfl rfl ?_
    refine sm_getr (q := 9) d_X11_shownAt_6 rfl fl_X11_10 (hx sx_0) rfl ?_
    refine sm_aload_n (q := 10) d_X11_shownAt_9 rfl rfl ?_
    refine sm_getr (q := 13) d_X11_shownAt_10 rfl fl_X11_26 (hx sx_0) rfl ?_
    refine sm_iload_n (q := 14) d_X11_shownAt_13 rfl rfl ?_
    obtain ⟨q4, e4, h⟩ := sm_bd h
    refine sm_callV (q := 17) (d' := 2) [] [.ref 24, .int x1] d_X11_shownAt_14 rfl lk_X11_171 (hx sx_1) rfl rfl rfl (Nat.le_of_ble_eq_true rfl) (Nat.le_of_ble_eq_true rfl) (c_X2_shownBy hx F 24 ⟨hx sx_24, hx sx_25⟩ x1 M2 _ e4) (st9 := [.int q4]) rfl ?_
    obtain rfl := Option.some.inj h
    exact sm_iret d_X11_shownAt_17 rfl rfl rfl rfl
  · exact sm_callVX (d' := 6) [] [.int x1] d_X11_shownAt_2 lk_X11_143 (hx sx_0) rfl rfl rfl (Nat.le_of_ble_eq_true rfl) (Nat.le_of_ble_eq_true rfl) (c_X11_needPosition hx F x1 M (.inr v3, M2) e1) rfl rfl
theorem c_X11_shownAt {sk : List sm_Sh} (hx : sm_ext skX sk) (F : Nat) (x1 : Int32) (M : sm_M) (r : sm_O × sm_M) (h : f_X11_shownAt F x1 M = some r) : sm_Ct yX11_shownAt md_X11_shownAt 7 sk [.ref 0, .int x1] M (r.1) r.2 := sm_enter 0 pn_X11 rfl (Nat.le_of_ble_eq_true rfl) rfl (j_X11_shownAt hx F x1 M r h)
/-! UniversalCycles.occurrences(I)I -/
theorem d_X11_occurrences_0 : decode cX11_occurrences 0 = .ok (.aload_n 0, 1) := by decide +kernel
theorem d_X11_occurrences_1 : decode cX11_occurrences 1 = .ok (.iload_n 1, 1) := by decide +kernel
theorem d_X11_occurrences_2 : decode cX11_occurrences 2 = .ok (.invokevirtual 107, 3) := by decide +kernel
theorem d_X11_occurrences_5 : decode cX11_occurrences 5 = .ok (.aload_n 0, 1) := by decide +kernel
theorem d_X11_occurrences_6 : decode cX11_occurrences 6 = .ok (.getfield 40, 3) := by decide +kernel
theorem d_X11_occurrences_9 : decode cX11_occurrences 9 = .ok (.aload_n 0, 1) := by decide +kernel
theorem d_X11_occurrences_10 : decode cX11_occurrences 10 = .ok (.getfield 10, 3) := by decide +kernel
theorem d_X11_occurrences_13 : decode cX11_occurrences 13 = .ok (.aload_n 0, 1) := by decide +kernel
theorem d_X11_occurrences_14 : decode cX11_occurrences 14 = .ok (.getfield 26, 3) := by decide +kernel
theorem d_X11_occurrences_17 : decode cX11_occurrences 17 = .ok (.invokevirtual 175, 3) := by decide +kernel
theorem d_X11_occurrences_20 : decode cX11_occurrences 20 = .ok (.aload_n 0, 1) := by decide +kernel
theorem d_X11_occurrences_21 : decode cX11_occurrences 21 = .ok (.getfield 40, 3) := by decide +kernel
theorem d_X11_occurrences_24 : decode cX11_occurrences 24 = .ok (.getfield 179, 3) := by decide +kernel
theorem d_X11_occurrences_27 : decode cX11_occurrences 27 = .ok (.iload_n 1, 1) := by decide +kernel
theorem d_X11_occurrences_28 : decode cX11_occurrences 28 = .ok (.iaload, 1) := by decide +kernel
theorem d_X11_occurrences_29 : decode cX11_occurrences 29 = .ok (.ireturn, 1) := by decide +kernel
def f_X11_occurrences (F : Nat) (x1 : Int32) (M : sm_M) : Option (sm_O × sm_M) := sm_bx (f_X11_needElement F x1 M) (fun M2 => (f_X10_lookAt F 24 M2).bind fun q4 => sm_g (sm_ib x1 200) (some (.inl (some (.int (q4.1 54 x1.toNatClampNeg))), q4)))
set_option maxRecDepth 100000 in
set_option maxHeartbeats 4000000 in
theorem j_X11_occurrences {sk : List sm_Sh} (hx : sm_ext skX sk) (F : Nat) : ∀ (x1 : Int32) (M : sm_M) (r : sm_O × sm_M), f_X11_occurrences F x1 M = some r → sm_J (md_X11_occurrences, 7, sk, r.1, r.2) 0 [some (.ref 0), some (.int x1)] [] M := by
  intro x1  M r h
  unfold f_X11_occurrences at h
  refine sm_aload_n (q := 1) d_X11_occurrences_0 rfl rfl ?_
  refine sm_iload_n (q := 2) d_X11_occurrences_1 rfl rfl ?_
  rcases sm_bxs h with ⟨v3, M2, e1, h⟩ | ⟨v3, M2, e1, rfl⟩
  · obtain rfl := n_X11_needElement e1
    refine sm_callV (q := 5) (d' := 6) [] [.int x1] d_X11_occurrences_2 rfl lk_X11_107 (hx sx_0) rfl rfl rfl (Nat.le_of_ble_eq_true rfl) (Nat.le_of_ble_eq_true rfl) (c_X11_needElement hx F x1 M (.inl none, M2) e1) (st9 := []) rfl ?_
    refine sm_aload_n (q := 6) d_X11_occurrences_5 rfl rfl ?_
    refine sm_getr (q := 9) d_X11_occurrences_6 rfl fl_X11_40 (hx sx_0) rfl ?_
    refine sm_aload_n (q := 10) d_X11_occurrences_9 rfl rfl ?_
    refine sm_getr (q := 13) d_X11_occurrences_10 rfl fl_X11_10 (hx sx_0) rfl ?_
    refine sm_aload_n (q := 14) d_X11_occurrences_13 rfl rfl ?_
    refine sm_getr (q := 17) d_X11_occurrences_14 rfl fl_X11_26 (hx sx_0) rfl ?_
    obtain ⟨q4, e4, h⟩ := sm_bd h
    refine sm_callV (q := 20) (d' := 3) [] [.ref 1, .ref 24] d_X11_occurrences_17 rfl lk_X11_175 (hx sx_52) rfl rfl rfl (Nat.le_of_ble_eq_true rfl) (Nat.le_of_ble_eq_true rfl) (c_X10_lookAt hx F 24 ⟨hx sx_24, hx sx_25⟩ M2 _ e4) (st9 := []) rfl ?_
    refine sm_aload_n (q := 21) d_X11_occurrences_20 rfl rfl ?_
    refine sm_getr (q := 24) d_X11_occurrences_21 rfl fl_X11_40 (hx sx_0) rfl ?_
    refine sm_getr (q := 27) d_X11_occurrences_24 rfl fl_X11_179 (hx sx_52) rfl ?_
    refine sm_iload_n (q := 28) d_X11_occurrences_27 rfl rfl ?_
    obtain ⟨g5, h⟩ := sm_gt h
    refine sm_iaload (q := 29) d_X11_occurrences_28 rfl (hx sx_54) (sm_ib_of g5) ?_
    obtain rfl := Option.some.inj h
    exact sm_iret d_X11_occurrences_29 rfl rfl rfl rfl
  · exact sm_callVX (d' := 6) [] [.int x1] d_X11_occurrences_2 lk_X11_107 (hx sx_0) rfl rfl rfl (Nat.le_of_ble_eq_true rfl) (Nat.le_of_ble_eq_true rfl) (c_X11_needElement hx F x1 M (.inr v3, M2) e1) rfl rfl
theorem c_X11_occurrences {sk : List sm_Sh} (hx : sm_ext skX sk) (F : Nat) (x1 : Int32) (M : sm_M) (r : sm_O × sm_M) (h : f_X11_occurrences F x1 M = some r) : sm_Ct yX11_occurrences md_X11_occurrences 7 sk [.ref 0, .int x1] M (r.1) r.2 := sm_enter 0 pn_X11 rfl (Nat.le_of_ble_eq_true rfl) rfl (j_X11_occurrences hx F x1 M r h)
/-! UniversalCycles.locate(I)I -/
theorem d_X11_locate_0 : decode cX11_locate 0 = .ok (.aload_n 0, 1) := by decide +kernel
theorem d_X11_locate_1 : decode cX11_locate 1 = .ok (.iload_n 1, 1) := by decide +kernel
theorem d_X11_locate_2 : decode cX11_locate 2 = .ok (.invokevirtual 107, 3) := by decide +kernel
theorem d_X11_locate_5 : decode cX11_locate 5 = .ok (.aload_n 0, 1) := by decide +kernel
theorem d_X11_locate_6 : decode cX11_locate 6 = .ok (.getfield 40, 3) := by decide +kernel
theorem d_X11_locate_9 : decode cX11_locate 9 = .ok (.aload_n 0, 1) := by decide +kernel
theorem d_X11_locate_10 : decode cX11_locate 10 = .ok (.getfield 10, 3) := by decide +kernel
theorem d_X11_locate_13 : decode cX11_locate 13 = .ok (.aload_n 0, 1) := by decide +kernel
theorem d_X11_locate_14 : decode cX11_locate 14 = .ok (.getfield 26, 3) := by decide +kernel
theorem d_X11_locate_17 : decode cX11_locate 17 = .ok (.invokevirtual 175, 3) := by decide +kernel
theorem d_X11_locate_20 : decode cX11_locate 20 = .ok (.aload_n 0, 1) := by decide +kernel
theorem d_X11_locate_21 : decode cX11_locate 21 = .ok (.getfield 40, 3) := by decide +kernel
theorem d_X11_locate_24 : decode cX11_locate 24 = .ok (.getfield 179, 3) := by decide +kernel
theorem d_X11_locate_27 : decode cX11_locate 27 = .ok (.iload_n 1, 1) := by decide +kernel
theorem d_X11_locate_28 : decode cX11_locate 28 = .ok (.iaload, 1) := by decide +kernel
theorem d_X11_locate_29 : decode cX11_locate 29 = .ok (.ifCond .ne 13, 3) := by decide +kernel
theorem d_X11_locate_32 : decode cX11_locate 32 = .ok (.new 150, 3) := by decide +kernel
theorem d_X11_locate_35 : decode cX11_locate 35 = .ok (.dup, 1) := by decide +kernel
theorem d_X11_locate_36 : decode cX11_locate 36 = .ok (.ldc 182, 2) := by decide +kernel
theorem d_X11_locate_38 : decode cX11_locate 38 = .ok (.invokespecial 154, 3) := by decide +kernel
theorem d_X11_locate_41 : decode cX11_locate 41 = .ok (.athrow, 1) := by decide +kernel
theorem d_X11_locate_42 : decode cX11_locate 42 = .ok (.aload_n 0, 1) := by decide +kernel
theorem d_X11_locate_43 : decode cX11_locate 43 = .ok (.getfield 40, 3) := by decide +kernel
theorem d_X11_locate_46 : decode cX11_locate 46 = .ok (.getfield 184, 3) := by decide +kernel
theorem d_X11_locate_49 : decode cX11_locate 49 = .ok (.iload_n 1, 1) := by decide +kernel
theorem d_X11_locate_50 : decode cX11_locate 50 = .ok (.iaload, 1) := by decide +kernel
theorem d_X11_locate_51 : decode cX11_locate 51 = .ok (.ireturn, 1) := by decide +kernel
def f_X11_locate (F : Nat) (x1 : Int32) (M : sm_M) : Option (sm_O × sm_M) := sm_bx (f_X11_needElement F x1 M) (fun M2 => (f_X10_lookAt F 24 M2).bind fun q4 => sm_g (sm_ib x1 200) (if (q4.1 54 x1.toNatClampNeg) = 0 then (some (.inr "java/util/NoSuchElementException", q4)) else (sm_g (sm_ib x1 200) (some (.inl (some (.int (q4.1 55 x1.toNatClampNeg))), q4)))))
set_option maxRecDepth 100000 in
set_option maxHeartbeats 4000000 in
theorem j_X11_locate {sk : List sm_Sh} (hx : sm_ext skX sk) (F : Nat) : ∀ (x1 : Int32) (M : sm_M) (r : sm_O × sm_M), f_X11_locate F x1 M = some r → sm_J (md_X11_locate, 7, sk, r.1, r.2) 0 [some (.ref 0), some (.int x1)] [] M := by
  intro x1  M r h
  unfold f_X11_locate at h
  refine sm_aload_n (q := 1) d_X11_locate_0 rfl rfl ?_
  refine sm_iload_n (q := 2) d_X11_locate_1 rfl rfl ?_
  rcases sm_bxs h with ⟨v3, M2, e1, h⟩ | ⟨v3, M2, e1, rfl⟩
  · obtain rfl := n_X11_needElement e1
    refine sm_callV (q := 5) (d' := 6) [] [.int x1] d_X11_locate_2 rfl lk_X11_107 (hx sx_0) rfl rfl rfl (Nat.le_of_ble_eq_true rfl) (Nat.le_of_ble_eq_true rfl) (c_X11_needElement hx F x1 M (.inl none, M2) e1) (st9 := []) rfl ?_
    refine sm_aload_n (q := 6) d_X11_locate_5 rfl rfl ?_
    refine sm_getr (q := 9) d_X11_locate_6 rfl fl_X11_40 (hx sx_0) rfl ?_
    refine sm_aload_n (q := 10) d_X11_locate_9 rfl rfl ?_
    refine sm_getr (q := 13) d_X11_locate_10 rfl fl_X11_10 (hx sx_0) rfl ?_
    refine sm_aload_n (q := 14) d_X11_locate_13 rfl rfl ?_
    refine sm_getr (q := 17) d_X11_locate_14 rfl fl_X11_26 (hx sx_0) rfl ?_
    obtain ⟨q4, e4, h⟩ := sm_bd h
    refine sm_callV (q := 20) (d' := 3) [] [.ref 1, .ref 24] d_X11_locate_17 rfl lk_X11_175 (hx sx_52) rfl rfl rfl (Nat.le_of_ble_eq_true rfl) (Nat.le_of_ble_eq_true rfl) (c_X10_lookAt hx F 24 ⟨hx sx_24, hx sx_25⟩ M2 _ e4) (st9 := []) rfl ?_
    refine sm_aload_n (q := 21) d_X11_locate_20 rfl rfl ?_
    refine sm_getr (q := 24) d_X11_locate_21 rfl fl_X11_40 (hx sx_0) rfl ?_
    refine sm_getr (q := 27) d_X11_locate_24 rfl fl_X11_179 (hx sx_52) rfl ?_
    refine sm_iload_n (q := 28) d_X11_locate_27 rfl rfl ?_
    obtain ⟨g5, h⟩ := sm_gt h
    refine sm_iaload (q := 29) d_X11_locate_28 rfl (hx sx_54) (sm_ib_of g5) ?_
    refine sm_if_ne (q := 32) (t := 42) d_X11_locate_29 rfl rfl (fun c6 => ?_) (fun c6 => ?_)
    · replace h := sm_if c6 h
      refine sm_aload_n (q := 43) d_X11_locate_42 rfl rfl ?_
      refine sm_getr (q := 46) d_X11_locate_43 rfl fl_X11_40 (hx sx_0) rfl ?_
      refine sm_getr (q := 49) d_X11_locate_46 rfl fl_X11_184 (hx sx_52) rfl ?_
      refine sm_iload_n (q := 50) d_X11_locate_49 rfl rfl ?_
      obtain ⟨g7, h⟩ := sm_gt h
      refine sm_iaload (q := 51) d_X11_locate_50 rfl (hx sx_55) (sm_ib_of g7) ?_
      obtain rfl := Option.some.inj h
      exact sm_iret d_X11_locate_51 rfl rfl rfl rfl
    · replace h := sm_it c6 h
      obtain rfl := Option.some.inj h
      exact sm_throwN rfl lt_X11_150_182_154 d_X11_locate_32 d_X11_locate_35 d_X11_locate_36 d_X11_locate_38 d_X11_locate_41 (Nat.le_of_ble_eq_true rfl) (Nat.le_of_ble_eq_true rfl) rfl rfl
  · exact sm_callVX (d' := 6) [] [.int x1] d_X11_locate_2 lk_X11_107 (hx sx_0) rfl rfl rfl (Nat.le_of_ble_eq_true rfl) (Nat.le_of_ble_eq_true rfl) (c_X11_needElement hx F x1 M (.inr v3, M2) e1) rfl rfl
theorem c_X11_locate {sk : List sm_Sh} (hx : sm_ext skX sk) (F : Nat) (x1 : Int32) (M : sm_M) (r : sm_O × sm_M) (h : f_X11_locate F x1 M = some r) : sm_Ct yX11_locate md_X11_locate 7 sk [.ref 0, .int x1] M (r.1) r.2 := sm_enter 0 pn_X11 rfl (Nat.le_of_ble_eq_true rfl) rfl (j_X11_locate hx F x1 M r h)
