/-! ===== methods, decompiled: 15f.face ===== -/
/-! UniversalCycles.restore()I -/
theorem d_X11_restore_0 : decode cX11_restore 0 = .ok (.aload_n 0, 1) := by decide +kernel
theorem d_X11_restore_1 : decode cX11_restore 1 = .ok (.getfield 328, 3) := by decide +kernel
theorem d_X11_restore_4 : decode cX11_restore 4 = .ok (.ifCond .ne 14, 3) := by decide +kernel
theorem d_X11_restore_7 : decode cX11_restore 7 = .ok (.new 131, 3) := by decide +kernel
theorem d_X11_restore_10 : decode cX11_restore 10 = .ok (.dup, 1) := by decide +kernel
theorem d_X11_restore_11 : decode cX11_restore 11 = .ok (.ldc_w 332, 3) := by decide +kernel
theorem d_X11_restore_14 : decode cX11_restore 14 = .ok (.invokespecial 135, 3) := by decide +kernel
theorem d_X11_restore_17 : decode cX11_restore 17 = .ok (.athrow, 1) := by decide +kernel
theorem d_X11_restore_18 : decode cX11_restore 18 = .ok (.aload_n 0, 1) := by decide +kernel
theorem d_X11_restore_19 : decode cX11_restore 19 = .ok (.aload_n 0, 1) := by decide +kernel
theorem d_X11_restore_20 : decode cX11_restore 20 = .ok (.getfield 319, 3) := by decide +kernel
theorem d_X11_restore_23 : decode cX11_restore 23 = .ok (.aload_n 0, 1) := by decide +kernel
theorem d_X11_restore_24 : decode cX11_restore 24 = .ok (.getfield 322, 3) := by decide +kernel
theorem d_X11_restore_27 : decode cX11_restore 27 = .ok (.aload_n 0, 1) := by decide +kernel
theorem d_X11_restore_28 : decode cX11_restore 28 = .ok (.getfield 325, 3) := by decide +kernel
theorem d_X11_restore_31 : decode cX11_restore 31 = .ok (.invokevirtual 82, 3) := by decide +kernel
theorem d_X11_restore_34 : decode cX11_restore 34 = .ok (.aload_n 0, 1) := by decide +kernel
theorem d_X11_restore_35 : decode cX11_restore 35 = .ok (.getfield 26, 3) := by decide +kernel
theorem d_X11_restore_38 : decode cX11_restore 38 = .ok (.aload_n 0, 1) := by decide +kernel
theorem d_X11_restore_39 : decode cX11_restore 39 = .ok (.getfield 79, 3) := by decide +kernel
theorem d_X11_restore_42 : decode cX11_restore 42 = .ok (.invokevirtual 248, 3) := by decide +kernel
theorem d_X11_restore_45 : decode cX11_restore 45 = .ok (.aload_n 0, 1) := by decide +kernel
theorem d_X11_restore_46 : decode cX11_restore 46 = .ok (.getfield 26, 3) := by decide +kernel
theorem d_X11_restore_49 : decode cX11_restore 49 = .ok (.getfield 130, 3) := by decide +kernel
theorem d_X11_restore_52 : decode cX11_restore 52 = .ok (.ireturn, 1) := by decide +kernel
def f_X11_restore (F : Nat) (M : sm_M) : Option (sm_O × sm_M) := if (M.1 0 17) = 0 then (some (.inr "java/lang/IllegalStateException", M)) else ((f_X11_beginFamily F (M.1 0 14) (M.1 0 15) (M.1 0 16) M).bind fun q2 => (f_X7_copyFrom F 24 78 q2).bind fun q3 => some (.inl (some (.int (q3.1 24 1))), q3))
set_option maxRecDepth 100000 in
set_option maxHeartbeats 4000000 in
theorem j_X11_restore {sk : List sm_Sh} (hx : sm_ext skX sk) (F : Nat) : ∀ (M : sm_M) (r : sm_O × sm_M), f_X11_restore F M = some r → sm_J (md_X11_restore, 6, sk, r.1, r.2) 0 [some (.ref 0)] [] M := by
  intro   M r h
  unfold f_X11_restore at h
  refine sm_aload_n (q := 1) d_X11_restore_0 rfl rfl ?_
  refine sm_geti (q := 4) d_X11_restore_1 rfl fl_X11_328 (hx sx_0) rfl ?_
  refine sm_if_ne (q := 7) (t := 18) d_X11_restore_4 rfl rfl (fun c1 => ?_) (fun c1 => ?_)
  · replace h := sm_if c1 h
    refine sm_aload_n (q := 19) d_X11_restore_18 rfl rfl ?_
    refine sm_aload_n (q := 20) d_X11_restore_19 rfl rfl ?_
    refine sm_geti (q := 23) d_X11_restore_20 rfl fl_X11_319 (hx sx_0) rfl ?_
    refine sm_aload_n (q := 24) d_X11_restore_23 rfl rfl ?_
    refine sm_geti (q := 27) d_X11_restore_24 rfl fl_X11_322 (hx sx_0) rfl ?_
    refine sm_aload_n (q := 28) d_X11_restore_27 rfl rfl ?_
    refine sm_geti (q := 31) d_X11_restore_28 rfl fl_X11_325 (hx sx_0) rfl ?_
    obtain ⟨q2, e2, h⟩ := sm_bd h
    refine sm_callV (q := 34) (d' := 5) [] [.int (M.1 0 14), .int (M.1 0 15), .int (M.1 0 16)] d_X11_restore_31 rfl lk_X11_82 (hx sx_0) rfl rfl rfl (Nat.le_of_ble_eq_true rfl) (Nat.le_of_ble_eq_true rfl) (c_X11_beginFamily hx F (M.1 0 14) (M.1 0 15) (M.1 0 16) M _ e2) (st9 := []) rfl ?_
    refine sm_aload_n (q := 35) d_X11_restore_34 rfl rfl ?_
    refine sm_getr (q := 38) d_X11_restore_35 rfl fl_X11_26 (hx sx_0) rfl ?_
    refine sm_aload_n (q := 39) d_X11_restore_38 rfl rfl ?_
    refine sm_getr (q := 42) d_X11_restore_39 rfl fl_X11_79 (hx sx_0) rfl ?_
    obtain ⟨q3, e3, h⟩ := sm_bd h
    refine sm_callV (q := 45) (d' := 1) [] [.ref 78] d_X11_restore_42 rfl lk_X11_248 (hx sx_24) rfl rfl rfl (Nat.le_of_ble_eq_true rfl) (Nat.le_of_ble_eq_true rfl) (c_X7_copyFrom hx F 24 78 ⟨hx sx_24, hx sx_25⟩ ⟨hx sx_78, hx sx_79⟩ q2 _ e3) (st9 := []) rfl ?_
    refine sm_aload_n (q := 46) d_X11_restore_45 rfl rfl ?_
    refine sm_getr (q := 49) d_X11_restore_46 rfl fl_X11_26 (hx sx_0) rfl ?_
    refine sm_geti (q := 52) d_X11_restore_49 rfl fl_X11_130 (hx sx_24) rfl ?_
    obtain rfl := Option.some.inj h
    exact sm_iret d_X11_restore_52 rfl rfl rfl rfl
  · replace h := sm_it c1 h
    obtain rfl := Option.some.inj h
    exact sm_throwW lt_X11_131_332_135 d_X11_restore_7 d_X11_restore_10 d_X11_restore_11 d_X11_restore_14 d_X11_restore_17 (Nat.le_of_ble_eq_true rfl) (Nat.le_of_ble_eq_true rfl) rfl rfl
theorem c_X11_restore {sk : List sm_Sh} (hx : sm_ext skX sk) (F : Nat) (M : sm_M) (r : sm_O × sm_M) (h : f_X11_restore F M = some r) : sm_Ct yX11_restore md_X11_restore 6 sk [.ref 0] M (r.1) r.2 := sm_enter 0 pn_X11 rfl (Nat.le_of_ble_eq_true rfl) rfl (j_X11_restore hx F M r h)
