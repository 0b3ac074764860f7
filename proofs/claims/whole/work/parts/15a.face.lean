/-! ===== methods, decompiled: 15a.face ===== -/
/-! UniversalCycles.beginFamily(III)V -/
theorem d_X11_beginFamily_0 : decode cX11_beginFamily 0 = .ok (.aload_n 0, 1) := by decide +kernel
theorem d_X11_beginFamily_1 : decode cX11_beginFamily 1 = .ok (.getfield 10, 3) := by decide +kernel
theorem d_X11_beginFamily_4 : decode cX11_beginFamily 4 = .ok (.iload_n 1, 1) := by decide +kernel
theorem d_X11_beginFamily_5 : decode cX11_beginFamily 5 = .ok (.iload_n 2, 1) := by decide +kernel
theorem d_X11_beginFamily_6 : decode cX11_beginFamily 6 = .ok (.iload_n 3, 1) := by decide +kernel
theorem d_X11_beginFamily_7 : decode cX11_beginFamily 7 = .ok (.invokevirtual 334, 3) := by decide +kernel
theorem d_X11_beginFamily_10 : decode cX11_beginFamily 10 = .ok (.aload_n 0, 1) := by decide +kernel
theorem d_X11_beginFamily_11 : decode cX11_beginFamily 11 = .ok (.getfield 19, 3) := by decide +kernel
theorem d_X11_beginFamily_14 : decode cX11_beginFamily 14 = .ok (.aload_n 0, 1) := by decide +kernel
theorem d_X11_beginFamily_15 : decode cX11_beginFamily 15 = .ok (.getfield 10, 3) := by decide +kernel
theorem d_X11_beginFamily_18 : decode cX11_beginFamily 18 = .ok (.invokevirtual 337, 3) := by decide +kernel
theorem d_X11_beginFamily_21 : decode cX11_beginFamily 21 = .ok (.aload_n 0, 1) := by decide +kernel
theorem d_X11_beginFamily_22 : decode cX11_beginFamily 22 = .ok (.getfield 26, 3) := by decide +kernel
theorem d_X11_beginFamily_25 : decode cX11_beginFamily 25 = .ok (.iconst 0, 1) := by decide +kernel
theorem d_X11_beginFamily_26 : decode cX11_beginFamily 26 = .ok (.putfield 130, 3) := by decide +kernel
theorem d_X11_beginFamily_29 : decode cX11_beginFamily 29 = .ok (.aload_n 0, 1) := by decide +kernel
theorem d_X11_beginFamily_30 : decode cX11_beginFamily 30 = .ok (.getfield 33, 3) := by decide +kernel
theorem d_X11_beginFamily_33 : decode cX11_beginFamily 33 = .ok (.iconst 0, 1) := by decide +kernel
theorem d_X11_beginFamily_34 : decode cX11_beginFamily 34 = .ok (.putfield 149, 3) := by decide +kernel
theorem d_X11_beginFamily_37 : decode cX11_beginFamily 37 = .ok (.return_, 1) := by decide +kernel
def f_X11_beginFamily (F : Nat) (x1 : Int32) (x2 : Int32) (x3 : Int32) (M : sm_M) : Option (sm_M) := (f_X2_become F x1 x2 x3 M).bind fun q1 => (f_X4_build F q1).bind fun q2 => some (sm_mi (sm_mi q2 24 1 (0 : Int32)) 26 2 (0 : Int32))
set_option maxRecDepth 100000 in
set_option maxHeartbeats 4000000 in
theorem j_X11_beginFamily {sk : List sm_Sh} (hx : sm_ext skX sk) (F : Nat) : ∀ (x1 : Int32) (x2 : Int32) (x3 : Int32) (M : sm_M) (r : sm_M), f_X11_beginFamily F x1 x2 x3 M = some r → sm_J (md_X11_beginFamily, 5, sk, .inl none, r) 0 [some (.ref 0), some (.int x1), some (.int x2), some (.int x3)] [] M := by
  intro x1 x2 x3  M r h
  unfold f_X11_beginFamily at h
  refine sm_aload_n (q := 1) d_X11_beginFamily_0 rfl rfl ?_
  refine sm_getr (q := 4) d_X11_beginFamily_1 rfl fl_X11_10 (hx sx_0) rfl ?_
  refine sm_iload_n (q := 5) d_X11_beginFamily_4 rfl rfl ?_
  refine sm_iload_n (q := 6) d_X11_beginFamily_5 rfl rfl ?_
  refine sm_iload_n (q := 7) d_X11_beginFamily_6 rfl rfl ?_
  obtain ⟨q1, e1, h⟩ := sm_bd h
  refine sm_callV (q := 10) (d' := 4) [] [.int x1, .int x2, .int x3] d_X11_beginFamily_7 rfl lk_X11_334 (hx sx_1) rfl rfl rfl (Nat.le_of_ble_eq_true rfl) (Nat.le_of_ble_eq_true rfl) (c_X2_become hx F x1 x2 x3 M _ e1) (st9 := []) rfl ?_
  refine sm_aload_n (q := 11) d_X11_beginFamily_10 rfl rfl ?_
  refine sm_getr (q := 14) d_X11_beginFamily_11 rfl fl_X11_19 (hx sx_0) rfl ?_
  refine sm_aload_n (q := 15) d_X11_beginFamily_14 rfl rfl ?_
  refine sm_getr (q := 18) d_X11_beginFamily_15 rfl fl_X11_10 (hx sx_0) rfl ?_
  obtain ⟨q2, e2, h⟩ := sm_bd h
  refine sm_callV (q := 21) (d' := 4) [] [.ref 1] d_X11_beginFamily_18 rfl lk_X11_337 (hx sx_5) rfl rfl rfl (Nat.le_of_ble_eq_true rfl) (Nat.le_of_ble_eq_true rfl) (c_X4_build hx F q1 _ e2) (st9 := []) rfl ?_
  refine sm_aload_n (q := 22) d_X11_beginFamily_21 rfl rfl ?_
  refine sm_getr (q := 25) d_X11_beginFamily_22 rfl fl_X11_26 (hx sx_0) rfl ?_
  refine sm_iconst (q := 26) d_X11_beginFamily_25 rfl ci_0 ?_
  refine sm_puti (q := 29) d_X11_beginFamily_26 rfl fw_X11_130 (hx sx_24) rfl rfl rfl ?_
  refine sm_aload_n (q := 30) d_X11_beginFamily_29 rfl rfl ?_
  refine sm_getr (q := 33) d_X11_beginFamily_30 rfl fl_X11_33 (hx sx_0) rfl ?_
  refine sm_iconst (q := 34) d_X11_beginFamily_33 rfl ci_0 ?_
  refine sm_puti (q := 37) d_X11_beginFamily_34 rfl fw_X11_149 (hx sx_26) rfl rfl rfl ?_
  obtain rfl := Option.some.inj h
  exact sm_vret d_X11_beginFamily_37 rfl rfl rfl
theorem c_X11_beginFamily {sk : List sm_Sh} (hx : sm_ext skX sk) (F : Nat) (x1 : Int32) (x2 : Int32) (x3 : Int32) (M : sm_M) (r : sm_M) (h : f_X11_beginFamily F x1 x2 x3 M = some r) : sm_Ct yX11_beginFamily md_X11_beginFamily 5 sk [.ref 0, .int x1, .int x2, .int x3] M (.inl none) r := sm_enter 0 pn_X11 rfl (Nat.le_of_ble_eq_true rfl) rfl (j_X11_beginFamily hx F x1 x2 x3 M r h)
/-! UniversalCycles.setFamily(III)I -/
theorem d_X11_setFamily_0 : decode cX11_setFamily 0 = .ok (.iload_n 1, 1) := by decide +kernel
theorem d_X11_setFamily_1 : decode cX11_setFamily 1 = .ok (.iload_n 2, 1) := by decide +kernel
theorem d_X11_setFamily_2 : decode cX11_setFamily 2 = .ok (.iload_n 3, 1) := by decide +kernel
theorem d_X11_setFamily_3 : decode cX11_setFamily 3 = .ok (.invokestatic 86, 3) := by decide +kernel
theorem d_X11_setFamily_6 : decode cX11_setFamily 6 = .ok (.ifCond .ne 13, 3) := by decide +kernel
theorem d_X11_setFamily_9 : decode cX11_setFamily 9 = .ok (.new 90, 3) := by decide +kernel
theorem d_X11_setFamily_12 : decode cX11_setFamily 12 = .ok (.dup, 1) := by decide +kernel
theorem d_X11_setFamily_13 : decode cX11_setFamily 13 = .ok (.ldc 92, 2) := by decide +kernel
theorem d_X11_setFamily_15 : decode cX11_setFamily 15 = .ok (.invokespecial 94, 3) := by decide +kernel
theorem d_X11_setFamily_18 : decode cX11_setFamily 18 = .ok (.athrow, 1) := by decide +kernel
theorem d_X11_setFamily_19 : decode cX11_setFamily 19 = .ok (.aload_n 0, 1) := by decide +kernel
theorem d_X11_setFamily_20 : decode cX11_setFamily 20 = .ok (.iload_n 1, 1) := by decide +kernel
theorem d_X11_setFamily_21 : decode cX11_setFamily 21 = .ok (.iload_n 2, 1) := by decide +kernel
theorem d_X11_setFamily_22 : decode cX11_setFamily 22 = .ok (.iload_n 3, 1) := by decide +kernel
theorem d_X11_setFamily_23 : decode cX11_setFamily 23 = .ok (.invokevirtual 82, 3) := by decide +kernel
theorem d_X11_setFamily_26 : decode cX11_setFamily 26 = .ok (.aload_n 0, 1) := by decide +kernel
theorem d_X11_setFamily_27 : decode cX11_setFamily 27 = .ok (.getfield 10, 3) := by decide +kernel
theorem d_X11_setFamily_30 : decode cX11_setFamily 30 = .ok (.getfield 97, 3) := by decide +kernel
theorem d_X11_setFamily_33 : decode cX11_setFamily 33 = .ok (.getfield 101, 3) := by decide +kernel
theorem d_X11_setFamily_36 : decode cX11_setFamily 36 = .ok (.ireturn, 1) := by decide +kernel
def f_X11_setFamily (F : Nat) (x1 : Int32) (x2 : Int32) (x3 : Int32) (M : sm_M) : Option (sm_O × sm_M) := (f_X2_isPossible F x1 x2 x3 M).bind fun q1 => if q1 = 0 then (some (.inr "java/lang/IllegalArgumentException", M)) else ((f_X11_beginFamily F x1 x2 x3 M).bind fun q3 => some (.inl (some (.int (q3.1 2 2))), q3))
set_option maxRecDepth 100000 in
set_option maxHeartbeats 4000000 in
theorem j_X11_setFamily {sk : List sm_Sh} (hx : sm_ext skX sk) (F : Nat) : ∀ (x1 : Int32) (x2 : Int32) (x3 : Int32) (M : sm_M) (r : sm_O × sm_M), f_X11_setFamily F x1 x2 x3 M = some r → sm_J (md_X11_setFamily, 6, sk, r.1, r.2) 0 [some (.ref 0), some (.int x1), some (.int x2), some (.int x3)] [] M := by
  intro x1 x2 x3  M r h
  unfold f_X11_setFamily at h
  refine sm_iload_n (q := 1) d_X11_setFamily_0 rfl rfl ?_
  refine sm_iload_n (q := 2) d_X11_setFamily_1 rfl rfl ?_
  refine sm_iload_n (q := 3) d_X11_setFamily_2 rfl rfl ?_
  obtain ⟨q1, e1, h⟩ := sm_bd h
  refine sm_callS (q := 6) (d' := 1) [] [.int x1, .int x2, .int x3] d_X11_setFamily_3 rfl lk_X11_86 rfl (Nat.le_of_ble_eq_true rfl) (Nat.le_of_ble_eq_true rfl) (c_X2_isPossible hx F x1 x2 x3 M _ e1) (st9 := [.int q1]) rfl ?_
  refine sm_if_ne (q := 9) (t := 19) d_X11_setFamily_6 rfl rfl (fun c2 => ?_) (fun c2 => ?_)
  · replace h := sm_if c2 h
    refine sm_aload_n (q := 20) d_X11_setFamily_19 rfl rfl ?_
    refine sm_iload_n (q := 21) d_X11_setFamily_20 rfl rfl ?_
    refine sm_iload_n (q := 22) d_X11_setFamily_21 rfl rfl ?_
    refine sm_iload_n (q := 23) d_X11_setFamily_22 rfl rfl ?_
    obtain ⟨q3, e3, h⟩ := sm_bd h
    refine sm_callV (q := 26) (d' := 5) [] [.int x1, .int x2, .int x3] d_X11_setFamily_23 rfl lk_X11_82 (hx sx_0) rfl rfl rfl (Nat.le_of_ble_eq_true rfl) (Nat.le_of_ble_eq_true rfl) (c_X11_beginFamily hx F x1 x2 x3 M _ e3) (st9 := []) rfl ?_
    refine sm_aload_n (q := 27) d_X11_setFamily_26 rfl rfl ?_
    refine sm_getr (q := 30) d_X11_setFamily_27 rfl fl_X11_10 (hx sx_0) rfl ?_
    refine sm_getr (q := 33) d_X11_setFamily_30 rfl fl_X11_97 (hx sx_1) rfl ?_
    refine sm_geti (q := 36) d_X11_setFamily_33 rfl fl_X11_101 (hx sx_2) rfl ?_
    obtain rfl := Option.some.inj h
    exact sm_iret d_X11_setFamily_36 rfl rfl rfl rfl
  · replace h := sm_it c2 h
    obtain rfl := Option.some.inj h
    exact sm_throw lt_X11_90_92_94 d_X11_setFamily_9 d_X11_setFamily_12 d_X11_setFamily_13 d_X11_setFamily_15 d_X11_setFamily_18 (Nat.le_of_ble_eq_true rfl) (Nat.le_of_ble_eq_true rfl) rfl rfl
theorem c_X11_setFamily {sk : List sm_Sh} (hx : sm_ext skX sk) (F : Nat) (x1 : Int32) (x2 : Int32) (x3 : Int32) (M : sm_M) (r : sm_O × sm_M) (h : f_X11_setFamily F x1 x2 x3 M = some r) : sm_Ct yX11_setFamily md_X11_setFamily 6 sk [.ref 0, .int x1, .int x2, .int x3] M (r.1) r.2 := sm_enter 0 pn_X11 rfl (Nat.le_of_ble_eq_true rfl) rfl (j_X11_setFamily hx F x1 x2 x3 M r h)
/-! UniversalCycles.elementCount()I -/
theorem d_X11_elementCount_0 : decode cX11_elementCount 0 = .ok (.aload_n 0, 1) := by decide +kernel
theorem d_X11_elementCount_1 : decode cX11_elementCount 1 = .ok (.getfield 10, 3) := by decide +kernel
theorem d_X11_elementCount_4 : decode cX11_elementCount 4 = .ok (.getfield 97, 3) := by decide +kernel
theorem d_X11_elementCount_7 : decode cX11_elementCount 7 = .ok (.getfield 101, 3) := by decide +kernel
theorem d_X11_elementCount_10 : decode cX11_elementCount 10 = .ok (.ireturn, 1) := by decide +kernel
def f_X11_elementCount (F : Nat) (M : sm_M) : Option (Int32) := some (M.1 2 2)
set_option maxRecDepth 100000 in
set_option maxHeartbeats 4000000 in
theorem j_X11_elementCount {sk : List sm_Sh} (hx : sm_ext skX sk) (F : Nat) : ∀ (M : sm_M) (r : Int32), f_X11_elementCount F M = some r → sm_J (md_X11_elementCount, 0, sk, .inl (some (.int r)), M) 0 [some (.ref 0)] [] M := by
  intro   M r h
  unfold f_X11_elementCount at h
  refine sm_aload_n (q := 1) d_X11_elementCount_0 rfl rfl ?_
  refine sm_getr (q := 4) d_X11_elementCount_1 rfl fl_X11_10 (hx sx_0) rfl ?_
  refine sm_getr (q := 7) d_X11_elementCount_4 rfl fl_X11_97 (hx sx_1) rfl ?_
  refine sm_geti (q := 10) d_X11_elementCount_7 rfl fl_X11_101 (hx sx_2) rfl ?_
  obtain rfl := Option.some.inj h
  exact sm_iret d_X11_elementCount_10 rfl rfl rfl rfl
theorem c_X11_elementCount {sk : List sm_Sh} (hx : sm_ext skX sk) (F : Nat) (M : sm_M) (r : Int32) (h : f_X11_elementCount F M = some r) : sm_Ct yX11_elementCount md_X11_elementCount 0 sk [.ref 0] M (.inl (some (.int r))) M := sm_enter 0 pn_X11 rfl (Nat.le_of_ble_eq_true rfl) rfl (j_X11_elementCount hx F M r h)
/-! UniversalCycles.needElement(I)V -/
theorem d_X11_needElement_0 : decode cX11_needElement 0 = .ok (.iload_n 1, 1) := by decide +kernel
theorem d_X11_needElement_1 : decode cX11_needElement 1 = .ok (.ifCond .lt 17, 3) := by decide +kernel
theorem d_X11_needElement_4 : decode cX11_needElement 4 = .ok (.iload_n 1, 1) := by decide +kernel
theorem d_X11_needElement_5 : decode cX11_needElement 5 = .ok (.aload_n 0, 1) := by decide +kernel
theorem d_X11_needElement_6 : decode cX11_needElement 6 = .ok (.getfield 10, 3) := by decide +kernel
theorem d_X11_needElement_9 : decode cX11_needElement 9 = .ok (.getfield 97, 3) := by decide +kernel
theorem d_X11_needElement_12 : decode cX11_needElement 12 = .ok (.getfield 101, 3) := by decide +kernel
theorem d_X11_needElement_15 : decode cX11_needElement 15 = .ok (.if_icmp .lt 14, 3) := by decide +kernel
theorem d_X11_needElement_18 : decode cX11_needElement 18 = .ok (.new 114, 3) := by decide +kernel
theorem d_X11_needElement_21 : decode cX11_needElement 21 = .ok (.dup, 1) := by decide +kernel
theorem d_X11_needElement_22 : decode cX11_needElement 22 = .ok (.ldc_w 344, 3) := by decide +kernel
theorem d_X11_needElement_25 : decode cX11_needElement 25 = .ok (.invokespecial 118, 3) := by decide +kernel
theorem d_X11_needElement_28 : decode cX11_needElement 28 = .ok (.athrow, 1) := by decide +kernel
theorem d_X11_needElement_29 : decode cX11_needElement 29 = .ok (.return_, 1) := by decide +kernel
def f_X11_needElement_18 (F : Nat) (M : sm_M) : Option (sm_O × sm_M) := some (.inr "java/lang/IndexOutOfBoundsException", M)
set_option maxRecDepth 100000 in
set_option maxHeartbeats 4000000 in
theorem j_X11_needElement_18 {sk : List sm_Sh} (hx : sm_ext skX sk) (F : Nat) : ∀ (M : sm_M) (r : sm_O × sm_M), f_X11_needElement_18 F M = some r → sm_J (md_X11_needElement, 6, sk, r.1, r.2) 18 [none, none] [] M := by
  intro   M r h
  unfold f_X11_needElement_18 at h
  obtain rfl := Option.some.inj h
  exact sm_throwW lt_X11_114_344_118 d_X11_needElement_18 d_X11_needElement_21 d_X11_needElement_22 d_X11_needElement_25 d_X11_needElement_28 (Nat.le_of_ble_eq_true rfl) (Nat.le_of_ble_eq_true rfl) rfl rfl
def f_X11_needElement (F : Nat) (x1 : Int32) (M : sm_M) : Option (sm_O × sm_M) := if x1 < 0 then (f_X11_needElement_18 F M) else (if x1 < (M.1 2 2) then (some (.inl none, M)) else (f_X11_needElement_18 F M))
set_option maxRecDepth 100000 in
set_option maxHeartbeats 4000000 in
theorem j_X11_needElement {sk : List sm_Sh} (hx : sm_ext skX sk) (F : Nat) : ∀ (x1 : Int32) (M : sm_M) (r : sm_O × sm_M), f_X11_needElement F x1 M = some r → sm_J (md_X11_needElement, 6, sk, r.1, r.2) 0 [some (.ref 0), some (.int x1)] [] M := by
  intro x1  M r h
  unfold f_X11_needElement at h
  refine sm_iload_n (q := 1) d_X11_needElement_0 rfl rfl ?_
  refine sm_if_lt (q := 4) (t := 18) d_X11_needElement_1 rfl rfl (fun c1 => ?_) (fun c1 => ?_)
  · replace h := sm_it c1 h
    refine sm_fg [0, 1] ?_
    exact j_X11_needElement_18 hx F M _ h
  · replace h := sm_if c1 h
    refine sm_iload_n (q := 5) d_X11_needElement_4 rfl rfl ?_
    refine sm_aload_n (q := 6) d_X11_needElement_5 rfl rfl ?_
    refine sm_getr (q := 9) d_X11_needElement_6 rfl fl_X11_10 (hx sx_0) rfl ?_
    refine sm_getr (q := 12) d_X11_needElement_9 rfl fl_X11_97 (hx sx_1) rfl ?_
    refine sm_geti (q := 15) d_X11_needElement_12 rfl fl_X11_101 (hx sx_2) rfl ?_
    refine sm_icmp_lt (q := 18) (t := 29) d_X11_needElement_15 rfl rfl (fun c2 => ?_) (fun c2 => ?_)
    · replace h := sm_it c2 h
      obtain rfl := Option.some.inj h
      exact sm_vret d_X11_needElement_29 rfl rfl rfl
    · replace h := sm_if c2 h
      refine sm_fg [0, 1] ?_
      exact j_X11_needElement_18 hx F M _ h
theorem n_X11_needElement {F : Nat} {x1 : Int32} {M M1 : sm_M} {v : Option Value} (h : f_X11_needElement F x1 M = some (.inl v, M1)) : v = none := by
  exact (show sm_nv (f_X11_needElement F x1 M) from by unfold f_X11_needElement; exact sm_nv_if sm_nv_thr (sm_nv_if sm_nv_ret sm_nv_thr)) _ _ h
theorem c_X11_needElement {sk : List sm_Sh} (hx : sm_ext skX sk) (F : Nat) (x1 : Int32) (M : sm_M) (r : sm_O × sm_M) (h : f_X11_needElement F x1 M = some r) : sm_Ct yX11_needElement md_X11_needElement 6 sk [.ref 0, .int x1] M (r.1) r.2 := sm_enter 0 pn_X11 rfl (Nat.le_of_ble_eq_true rfl) rfl (j_X11_needElement hx F x1 M r h)
/-! UniversalCycles.elementAt(II)I -/
theorem d_X11_elementAt_0 : decode cX11_elementAt 0 = .ok (.aload_n 0, 1) := by decide +kernel
theorem d_X11_elementAt_1 : decode cX11_elementAt 1 = .ok (.iload_n 1, 1) := by decide +kernel
theorem d_X11_elementAt_2 : decode cX11_elementAt 2 = .ok (.invokevirtual 107, 3) := by decide +kernel
theorem d_X11_elementAt_5 : decode cX11_elementAt 5 = .ok (.iload_n 2, 1) := by decide +kernel
theorem d_X11_elementAt_6 : decode cX11_elementAt 6 = .ok (.ifCond .lt 14, 3) := by decide +kernel
theorem d_X11_elementAt_9 : decode cX11_elementAt 9 = .ok (.iload_n 2, 1) := by decide +kernel
theorem d_X11_elementAt_10 : decode cX11_elementAt 10 = .ok (.aload_n 0, 1) := by decide +kernel
theorem d_X11_elementAt_11 : decode cX11_elementAt 11 = .ok (.getfield 10, 3) := by decide +kernel
theorem d_X11_elementAt_14 : decode cX11_elementAt 14 = .ok (.getfield 111, 3) := by decide +kernel
theorem d_X11_elementAt_17 : decode cX11_elementAt 17 = .ok (.if_icmp .lt 13, 3) := by decide +kernel
theorem d_X11_elementAt_20 : decode cX11_elementAt 20 = .ok (.new 114, 3) := by decide +kernel
theorem d_X11_elementAt_23 : decode cX11_elementAt 23 = .ok (.dup, 1) := by decide +kernel
theorem d_X11_elementAt_24 : decode cX11_elementAt 24 = .ok (.ldc 116, 2) := by decide +kernel
theorem d_X11_elementAt_26 : decode cX11_elementAt 26 = .ok (.invokespecial 118, 3) := by decide +kernel
theorem d_X11_elementAt_29 : decode cX11_elementAt 29 = .ok (.athrow, 1) := by decide +kernel
theorem d_X11_elementAt_30 : decode cX11_elementAt 30 = .ok (.aload_n 0, 1) := by decide +kernel
theorem d_X11_elementAt_31 : decode cX11_elementAt 31 = .ok (.getfield 10, 3) := by decide +kernel
theorem d_X11_elementAt_34 : decode cX11_elementAt 34 = .ok (.getfield 97, 3) := by decide +kernel
theorem d_X11_elementAt_37 : decode cX11_elementAt 37 = .ok (.getfield 119, 3) := by decide +kernel
theorem d_X11_elementAt_40 : decode cX11_elementAt 40 = .ok (.iload_n 1, 1) := by decide +kernel
theorem d_X11_elementAt_41 : decode cX11_elementAt 41 = .ok (.iaload, 1) := by decide +kernel
theorem d_X11_elementAt_42 : decode cX11_elementAt 42 = .ok (.aload_n 0, 1) := by decide +kernel
theorem d_X11_elementAt_43 : decode cX11_elementAt 43 = .ok (.getfield 10, 3) := by decide +kernel
theorem d_X11_elementAt_46 : decode cX11_elementAt 46 = .ok (.getfield 111, 3) := by decide +kernel
theorem d_X11_elementAt_49 : decode cX11_elementAt 49 = .ok (.iload_n 2, 1) := by decide +kernel
theorem d_X11_elementAt_50 : decode cX11_elementAt 50 = .ok (.invokestatic 123, 3) := by decide +kernel
theorem d_X11_elementAt_53 : decode cX11_elementAt 53 = .ok (.ireturn, 1) := by decide +kernel
def f_X11_elementAt_20 (F : Nat) (M : sm_M) : Option (sm_O × sm_M) := some (.inr "java/lang/IndexOutOfBoundsException", M)
set_option maxRecDepth 100000 in
set_option maxHeartbeats 4000000 in
theorem j_X11_elementAt_20 {sk : List sm_Sh} (hx : sm_ext skX sk) (F : Nat) : ∀ (M : sm_M) (r : sm_O × sm_M), f_X11_elementAt_20 F M = some r → sm_J (md_X11_elementAt, 7, sk, r.1, r.2) 20 [none, none, none] [] M := by
  intro   M r h
  unfold f_X11_elementAt_20 at h
  obtain rfl := Option.some.inj h
  exact sm_throw lt_X11_114_116_118 d_X11_elementAt_20 d_X11_elementAt_23 d_X11_elementAt_24 d_X11_elementAt_26 d_X11_elementAt_29 (Nat.le_of_ble_eq_true rfl) (Nat.le_of_ble_eq_true rfl) rfl rfl
def f_X11_elementAt (F : Nat) (x1 : Int32) (x2 : Int32) (M : sm_M) : Option (sm_O × sm_M) := sm_bx (f_X11_needElement F x1 M) (fun M2 => if x2 < 0 then (f_X11_elementAt_20 F M2) else (if x2 < (M2.1 1 2) then (sm_g (sm_ib x1 200) ((f_X1_numberAt F (M2.1 3 x1.toNatClampNeg) (M2.1 1 2) x2 M2).bind fun q7 => some (.inl (some (.int q7)), M2))) else (f_X11_elementAt_20 F M2)))
set_option maxRecDepth 100000 in
set_option maxHeartbeats 4000000 in
theorem j_X11_elementAt {sk : List sm_Sh} (hx : sm_ext skX sk) (F : Nat) : ∀ (x1 : Int32) (x2 : Int32) (M : sm_M) (r : sm_O × sm_M), f_X11_elementAt F x1 x2 M = some r → sm_J (md_X11_elementAt, 7, sk, r.1, r.2) 0 [some (.ref 0), some (.int x1), some (.int x2)] [] M := by
  intro x1 x2  M r h
  unfold f_X11_elementAt at h
  refine sm_aload_n (q := 1) d_X11_elementAt_0 rfl rfl ?_
  refine sm_iload_n (q := 2) d_X11_elementAt_1 rfl rfl ?_
  rcases sm_bxs h with ⟨v3, M2, e1, h⟩ | ⟨v3, M2, e1, rfl⟩
  · obtain rfl := n_X11_needElement e1
    refine sm_callV (q := 5) (d' := 6) [] [.int x1] d_X11_elementAt_2 rfl lk_X11_107 (hx sx_0) rfl rfl rfl (Nat.le_of_ble_eq_true rfl) (Nat.le_of_ble_eq_true rfl) (c_X11_needElement hx F x1 M (.inl none, M2) e1) (st9 := []) rfl ?_
    refine sm_iload_n (q := 6) d_X11_elementAt_5 rfl rfl ?_
    refine sm_if_lt (q := 9) (t := 20) d_X11_elementAt_6 rfl rfl (fun c4 => ?_) (fun c4 => ?_)
    · replace h := sm_it c4 h
      refine sm_fg [0, 1, 2] ?_
      exact j_X11_elementAt_20 hx F M2 _ h
    · replace h := sm_if c4 h
      refine sm_iload_n (q := 10) d_X11_elementAt_9 rfl rfl ?_
      refine sm_aload_n (q := 11) d_X11_elementAt_10 rfl rfl ?_
      refine sm_getr (q := 14) d_X11_elementAt_11 rfl fl_X11_10 (hx sx_0) rfl ?_
      refine sm_geti (q := 17) d_X11_elementAt_14 rfl fl_X11_111 (hx sx_1) rfl ?_
      refine sm_icmp_lt (q := 20) (t := 30) d_X11_elementAt_17 rfl rfl (fun c5 => ?_) (fun c5 => ?_)
      · replace h := sm_it c5 h
        refine sm_aload_n (q := 31) d_X11_elementAt_30 rfl rfl ?_
        refine sm_getr (q := 34) d_X11_elementAt_31 rfl fl_X11_10 (hx sx_0) rfl ?_
        refine sm_getr (q := 37) d_X11_elementAt_34 rfl fl_X11_97 (hx sx_1) rfl ?_
        refine sm_getr (q := 40) d_X11_elementAt_37 rfl fl_X11_119 (hx sx_2) rfl ?_
        refine sm_iload_n (q := 41) d_X11_elementAt_40 rfl rfl ?_
        obtain ⟨g6, h⟩ := sm_gt h
        refine sm_iaload (q := 42) d_X11_elementAt_41 rfl (hx sx_3) (sm_ib_of g6) ?_
        refine sm_aload_n (q := 43) d_X11_elementAt_42 rfl rfl ?_
        refine sm_getr (q := 46) d_X11_elementAt_43 rfl fl_X11_10 (hx sx_0) rfl ?_
        refine sm_geti (q := 49) d_X11_elementAt_46 rfl fl_X11_111 (hx sx_1) rfl ?_
        refine sm_iload_n (q := 50) d_X11_elementAt_49 rfl rfl ?_
        obtain ⟨q7, e7, h⟩ := sm_bd h
        refine sm_callS (q := 53) (d' := 0) [] [.int (M2.1 3 x1.toNatClampNeg), .int (M2.1 1 2), .int x2] d_X11_elementAt_50 rfl lk_X11_123 rfl (Nat.le_of_ble_eq_true rfl) (Nat.le_of_ble_eq_true rfl) (c_X1_numberAt hx F (M2.1 3 x1.toNatClampNeg) (M2.1 1 2) x2 M2 _ e7) (st9 := [.int q7]) rfl ?_
        obtain rfl := Option.some.inj h
        exact sm_iret d_X11_elementAt_53 rfl rfl rfl rfl
      · replace h := sm_if c5 h
        refine sm_fg [0, 1, 2] ?_
        exact j_X11_elementAt_20 hx F M2 _ h
  · exact sm_callVX (d' := 6) [] [.int x1] d_X11_elementAt_2 lk_X11_107 (hx sx_0) rfl rfl rfl (Nat.le_of_ble_eq_true rfl) (Nat.le_of_ble_eq_true rfl) (c_X11_needElement hx F x1 M (.inr v3, M2) e1) rfl rfl
theorem c_X11_elementAt {sk : List sm_Sh} (hx : sm_ext skX sk) (F : Nat) (x1 : Int32) (x2 : Int32) (M : sm_M) (r : sm_O × sm_M) (h : f_X11_elementAt F x1 x2 M = some r) : sm_Ct yX11_elementAt md_X11_elementAt 7 sk [.ref 0, .int x1, .int x2] M (r.1) r.2 := sm_enter 0 pn_X11 rfl (Nat.le_of_ble_eq_true rfl) rfl (j_X11_elementAt hx F x1 x2 M r h)
/-! UniversalCycles.needSymbol(I)V -/
theorem d_X11_needSymbol_0 : decode cX11_needSymbol 0 = .ok (.aload_n 0, 1) := by decide +kernel
theorem d_X11_needSymbol_1 : decode cX11_needSymbol 1 = .ok (.getfield 10, 3) := by decide +kernel
theorem d_X11_needSymbol_4 : decode cX11_needSymbol 4 = .ok (.iload_n 1, 1) := by decide +kernel
theorem d_X11_needSymbol_5 : decode cX11_needSymbol 5 = .ok (.invokevirtual 164, 3) := by decide +kernel
theorem d_X11_needSymbol_8 : decode cX11_needSymbol 8 = .ok (.ifCond .ne 14, 3) := by decide +kernel
theorem d_X11_needSymbol_11 : decode cX11_needSymbol 11 = .ok (.new 90, 3) := by decide +kernel
theorem d_X11_needSymbol_14 : decode cX11_needSymbol 14 = .ok (.dup, 1) := by decide +kernel
theorem d_X11_needSymbol_15 : decode cX11_needSymbol 15 = .ok (.ldc_w 350, 3) := by decide +kernel
theorem d_X11_needSymbol_18 : decode cX11_needSymbol 18 = .ok (.invokespecial 94, 3) := by decide +kernel
theorem d_X11_needSymbol_21 : decode cX11_needSymbol 21 = .ok (.athrow, 1) := by decide +kernel
theorem d_X11_needSymbol_22 : decode cX11_needSymbol 22 = .ok (.return_, 1) := by decide +kernel
def f_X11_needSymbol (F : Nat) (x1 : Int32) (M : sm_M) : Option (sm_O × sm_M) := (f_X2_hasSymbol F x1 M).bind fun q1 => if q1 = 0 then (some (.inr "java/lang/IllegalArgumentException", M)) else (some (.inl none, M))
set_option maxRecDepth 100000 in
set_option maxHeartbeats 4000000 in
theorem j_X11_needSymbol {sk : List sm_Sh} (hx : sm_ext skX sk) (F : Nat) : ∀ (x1 : Int32) (M : sm_M) (r : sm_O × sm_M), f_X11_needSymbol F x1 M = some r → sm_J (md_X11_needSymbol, 6, sk, r.1, r.2) 0 [some (.ref 0), some (.int x1)] [] M := by
  intro x1  M r h
  unfold f_X11_needSymbol at h
  refine sm_aload_n (q := 1) d_X11_needSymbol_0 rfl rfl ?_
  refine sm_getr (q := 4) d_X11_needSymbol_1 rfl fl_X11_10 (hx sx_0) rfl ?_
  refine sm_iload_n (q := 5) d_X11_needSymbol_4 rfl rfl ?_
  obtain ⟨q1, e1, h⟩ := sm_bd h
  refine sm_callV (q := 8) (d' := 0) [] [.int x1] d_X11_needSymbol_5 rfl lk_X11_164 (hx sx_1) rfl rfl rfl (Nat.le_of_ble_eq_true rfl) (Nat.le_of_ble_eq_true rfl) (c_X2_hasSymbol hx F x1 M _ e1) (st9 := [.int q1]) rfl ?_
  refine sm_if_ne (q := 11) (t := 22) d_X11_needSymbol_8 rfl rfl (fun c2 => ?_) (fun c2 => ?_)
  · replace h := sm_if c2 h
    obtain rfl := Option.some.inj h
    exact sm_vret d_X11_needSymbol_22 rfl rfl rfl
  · replace h := sm_it c2 h
    obtain rfl := Option.some.inj h
    exact sm_throwW lt_X11_90_350_94 d_X11_needSymbol_11 d_X11_needSymbol_14 d_X11_needSymbol_15 d_X11_needSymbol_18 d_X11_needSymbol_21 (Nat.le_of_ble_eq_true rfl) (Nat.le_of_ble_eq_true rfl) rfl rfl
theorem n_X11_needSymbol {F : Nat} {x1 : Int32} {M M1 : sm_M} {v : Option Value} (h : f_X11_needSymbol F x1 M = some (.inl v, M1)) : v = none := by
  exact (show sm_nv (f_X11_needSymbol F x1 M) from by unfold f_X11_needSymbol; exact sm_nv_bd fun q => sm_nv_if sm_nv_thr sm_nv_ret) _ _ h
theorem c_X11_needSymbol {sk : List sm_Sh} (hx : sm_ext skX sk) (F : Nat) (x1 : Int32) (M : sm_M) (r : sm_O × sm_M) (h : f_X11_needSymbol F x1 M = some r) : sm_Ct yX11_needSymbol md_X11_needSymbol 6 sk [.ref 0, .int x1] M (r.1) r.2 := sm_enter 0 pn_X11 rfl (Nat.le_of_ble_eq_true rfl) rfl (j_X11_needSymbol hx F x1 M r h)
/-! UniversalCycles.append(I)I -/
theorem d_X11_append_0 : decode cX11_append 0 = .ok (.aload_n 0, 1) := by decide +kernel
theorem d_X11_append_1 : decode cX11_append 1 = .ok (.iload_n 1, 1) := by decide +kernel
theorem d_X11_append_2 : decode cX11_append 2 = .ok (.invokevirtual 127, 3) := by decide +kernel
theorem d_X11_append_5 : decode cX11_append 5 = .ok (.aload_n 0, 1) := by decide +kernel
theorem d_X11_append_6 : decode cX11_append 6 = .ok (.getfield 26, 3) := by decide +kernel
theorem d_X11_append_9 : decode cX11_append 9 = .ok (.getfield 130, 3) := by decide +kernel
theorem d_X11_append_12 : decode cX11_append 12 = .ok (.sipush 240, 3) := by decide +kernel
theorem d_X11_append_15 : decode cX11_append 15 = .ok (.if_icmp .lt 13, 3) := by decide +kernel
theorem d_X11_append_18 : decode cX11_append 18 = .ok (.new 131, 3) := by decide +kernel
theorem d_X11_append_21 : decode cX11_append 21 = .ok (.dup, 1) := by decide +kernel
theorem d_X11_append_22 : decode cX11_append 22 = .ok (.ldc 133, 2) := by decide +kernel
theorem d_X11_append_24 : decode cX11_append 24 = .ok (.invokespecial 135, 3) := by decide +kernel
theorem d_X11_append_27 : decode cX11_append 27 = .ok (.athrow, 1) := by decide +kernel
theorem d_X11_append_28 : decode cX11_append 28 = .ok (.aload_n 0, 1) := by decide +kernel
theorem d_X11_append_29 : decode cX11_append 29 = .ok (.getfield 33, 3) := by decide +kernel
theorem d_X11_append_32 : decode cX11_append 32 = .ok (.aload_n 0, 1) := by decide +kernel
theorem d_X11_append_33 : decode cX11_append 33 = .ok (.getfield 26, 3) := by decide +kernel
theorem d_X11_append_36 : decode cX11_append 36 = .ok (.invokevirtual 136, 3) := by decide +kernel
theorem d_X11_append_39 : decode cX11_append 39 = .ok (.pop, 1) := by decide +kernel
theorem d_X11_append_40 : decode cX11_append 40 = .ok (.aload_n 0, 1) := by decide +kernel
theorem d_X11_append_41 : decode cX11_append 41 = .ok (.getfield 26, 3) := by decide +kernel
theorem d_X11_append_44 : decode cX11_append 44 = .ok (.iload_n 1, 1) := by decide +kernel
theorem d_X11_append_45 : decode cX11_append 45 = .ok (.invokevirtual 140, 3) := by decide +kernel
theorem d_X11_append_48 : decode cX11_append 48 = .ok (.aload_n 0, 1) := by decide +kernel
theorem d_X11_append_49 : decode cX11_append 49 = .ok (.getfield 26, 3) := by decide +kernel
theorem d_X11_append_52 : decode cX11_append 52 = .ok (.getfield 130, 3) := by decide +kernel
theorem d_X11_append_55 : decode cX11_append 55 = .ok (.ireturn, 1) := by decide +kernel
def f_X11_append (F : Nat) (x1 : Int32) (M : sm_M) : Option (sm_O × sm_M) := sm_bx (f_X11_needSymbol F x1 M) (fun M2 => if (M2.1 24 1) < (240 : Int32) then ((f_X6_remember F 24 M2).bind fun q5 => (f_X7_push F 24 x1 q5.2).bind fun q6 => some (.inl (some (.int (q6.1 24 1))), q6)) else (some (.inr "java/lang/IllegalStateException", M2)))
set_option maxRecDepth 100000 in
set_option maxHeartbeats 4000000 in
theorem j_X11_append {sk : List sm_Sh} (hx : sm_ext skX sk) (F : Nat) : ∀ (x1 : Int32) (M : sm_M) (r : sm_O × sm_M), f_X11_append F x1 M = some r → sm_J (md_X11_append, 7, sk, r.1, r.2) 0 [some (.ref 0), some (.int x1)] [] M := by
  intro x1  M r h
  unfold f_X11_append at h
  refine sm_aload_n (q := 1) d_X11_append_0 rfl rfl ?_
  refine sm_iload_n (q := 2) d_X11_append_1 rfl rfl ?_
  rcases sm_bxs h with ⟨v3, M2, e1, h⟩ | ⟨v3, M2, e1, rfl⟩
  · obtain rfl := n_X11_needSymbol e1
    refine sm_callV (q := 5) (d' := 6) [] [.int x1] d_X11_append_2 rfl lk_X11_127 (hx sx_0) rfl rfl rfl (Nat.le_of_ble_eq_true rfl) (Nat.le_of_ble_eq_true rfl) (c_X11_needSymbol hx F x1 M (.inl none, M2) e1) (st9 := []) rfl ?_
    refine sm_aload_n (q := 6) d_X11_append_5 rfl rfl ?_
    refine sm_getr (q := 9) d_X11_append_6 rfl fl_X11_26 (hx sx_0) rfl ?_
    refine sm_geti (q := 12) d_X11_append_9 rfl fl_X11_130 (hx sx_24) rfl ?_
    refine sm_sipush (q := 15) d_X11_append_12 rfl cs_240 ?_
    refine sm_icmp_lt (q := 18) (t := 28) d_X11_append_15 rfl rfl (fun c4 => ?_) (fun c4 => ?_)
    · replace h := sm_it c4 h
      refine sm_aload_n (q := 29) d_X11_append_28 rfl rfl ?_
      refine sm_getr (q := 32) d_X11_append_29 rfl fl_X11_33 (hx sx_0) rfl ?_
      refine sm_aload_n (q := 33) d_X11_append_32 rfl rfl ?_
      refine sm_getr (q := 36) d_X11_append_33 rfl fl_X11_26 (hx sx_0) rfl ?_
      obtain ⟨q5, e5, h⟩ := sm_bd h
      refine sm_callV (q := 39) (d' := 2) [] [.ref 24] d_X11_append_36 rfl lk_X11_136 (hx sx_26) rfl rfl rfl (Nat.le_of_ble_eq_true rfl) (Nat.le_of_ble_eq_true rfl) (c_X6_remember hx F 24 ⟨hx sx_24, hx sx_25⟩ M2 _ e5) (st9 := [.ref q5.1]) rfl ?_
      refine sm_pop (q := 40) d_X11_append_39 rfl rfl ?_
      refine sm_aload_n (q := 41) d_X11_append_40 rfl rfl ?_
      refine sm_getr (q := 44) d_X11_append_41 rfl fl_X11_26 (hx sx_0) rfl ?_
      refine sm_iload_n (q := 45) d_X11_append_44 rfl rfl ?_
      obtain ⟨q6, e6, h⟩ := sm_bd h
      refine sm_callV (q := 48) (d' := 0) [] [.int x1] d_X11_append_45 rfl lk_X11_140 (hx sx_24) rfl rfl rfl (Nat.le_of_ble_eq_true rfl) (Nat.le_of_ble_eq_true rfl) (c_X7_push hx F 24 ⟨hx sx_24, hx sx_25⟩ x1 q5.2 _ e6) (st9 := []) rfl ?_
      refine sm_aload_n (q := 49) d_X11_append_48 rfl rfl ?_
      refine sm_getr (q := 52) d_X11_append_49 rfl fl_X11_26 (hx sx_0) rfl ?_
      refine sm_geti (q := 55) d_X11_append_52 rfl fl_X11_130 (hx sx_24) rfl ?_
      obtain rfl := Option.some.inj h
      exact sm_iret d_X11_append_55 rfl rfl rfl rfl
    · replace h := sm_if c4 h
      obtain rfl := Option.some.inj h
      exact sm_throw lt_X11_131_133_135 d_X11_append_18 d_X11_append_21 d_X11_append_22 d_X11_append_24 d_X11_append_27 (Nat.le_of_ble_eq_true rfl) (Nat.le_of_ble_eq_true rfl) rfl rfl
  · exact sm_callVX (d' := 6) [] [.int x1] d_X11_append_2 lk_X11_127 (hx sx_0) rfl rfl rfl (Nat.le_of_ble_eq_true rfl) (Nat.le_of_ble_eq_true rfl) (c_X11_needSymbol hx F x1 M (.inr v3, M2) e1) rfl rfl
theorem c_X11_append {sk : List sm_Sh} (hx : sm_ext skX sk) (F : Nat) (x1 : Int32) (M : sm_M) (r : sm_O × sm_M) (h : f_X11_append F x1 M = some r) : sm_Ct yX11_append md_X11_append 7 sk [.ref 0, .int x1] M (r.1) r.2 := sm_enter 0 pn_X11 rfl (Nat.le_of_ble_eq_true rfl) rfl (j_X11_append hx F x1 M r h)
/-! UniversalCycles.needPosition(I)V -/
theorem d_X11_needPosition_0 : decode cX11_needPosition 0 = .ok (.iload_n 1, 1) := by decide +kernel
theorem d_X11_needPosition_1 : decode cX11_needPosition 1 = .ok (.ifCond .lt 14, 3) := by decide +kernel
theorem d_X11_needPosition_4 : decode cX11_needPosition 4 = .ok (.iload_n 1, 1) := by decide +kernel
theorem d_X11_needPosition_5 : decode cX11_needPosition 5 = .ok (.aload_n 0, 1) := by decide +kernel
theorem d_X11_needPosition_6 : decode cX11_needPosition 6 = .ok (.getfield 26, 3) := by decide +kernel
theorem d_X11_needPosition_9 : decode cX11_needPosition 9 = .ok (.getfield 130, 3) := by decide +kernel
theorem d_X11_needPosition_12 : decode cX11_needPosition 12 = .ok (.if_icmp .lt 14, 3) := by decide +kernel
theorem d_X11_needPosition_15 : decode cX11_needPosition 15 = .ok (.new 114, 3) := by decide +kernel
theorem d_X11_needPosition_18 : decode cX11_needPosition 18 = .ok (.dup, 1) := by decide +kernel
theorem d_X11_needPosition_19 : decode cX11_needPosition 19 = .ok (.ldc_w 346, 3) := by decide +kernel
theorem d_X11_needPosition_22 : decode cX11_needPosition 22 = .ok (.invokespecial 118, 3) := by decide +kernel
theorem d_X11_needPosition_25 : decode cX11_needPosition 25 = .ok (.athrow, 1) := by decide +kernel
theorem d_X11_needPosition_26 : decode cX11_needPosition 26 = .ok (.return_, 1) := by decide +kernel
def f_X11_needPosition_15 (F : Nat) (M : sm_M) : Option (sm_O × sm_M) := some (.inr "java/lang/IndexOutOfBoundsException", M)
set_option maxRecDepth 100000 in
set_option maxHeartbeats 4000000 in
theorem j_X11_needPosition_15 {sk : List sm_Sh} (hx : sm_ext skX sk) (F : Nat) : ∀ (M : sm_M) (r : sm_O × sm_M), f_X11_needPosition_15 F M = some r → sm_J (md_X11_needPosition, 6, sk, r.1, r.2) 15 [none, none] [] M := by
  intro   M r h
  unfold f_X11_needPosition_15 at h
  obtain rfl := Option.some.inj h
  exact sm_throwW lt_X11_114_346_118 d_X11_needPosition_15 d_X11_needPosition_18 d_X11_needPosition_19 d_X11_needPosition_22 d_X11_needPosition_25 (Nat.le_of_ble_eq_true rfl) (Nat.le_of_ble_eq_true rfl) rfl rfl
def f_X11_needPosition (F : Nat) (x1 : Int32) (M : sm_M) : Option (sm_O × sm_M) := if x1 < 0 then (f_X11_needPosition_15 F M) else (if x1 < (M.1 24 1) then (some (.inl none, M)) else (f_X11_needPosition_15 F M))
set_option maxRecDepth 100000 in
set_option maxHeartbeats 4000000 in
theorem j_X11_needPosition {sk : List sm_Sh} (hx : sm_ext skX sk) (F : Nat) : ∀ (x1 : Int32) (M : sm_M) (r : sm_O × sm_M), f_X11_needPosition F x1 M = some r → sm_J (md_X11_needPosition, 6, sk, r.1, r.2) 0 [some (.ref 0), some (.int x1)] [] M := by
  intro x1  M r h
  unfold f_X11_needPosition at h
  refine sm_iload_n (q := 1) d_X11_needPosition_0 rfl rfl ?_
  refine sm_if_lt (q := 4) (t := 15) d_X11_needPosition_1 rfl rfl (fun c1 => ?_) (fun c1 => ?_)
  · replace h := sm_it c1 h
    refine sm_fg [0, 1] ?_
    exact j_X11_needPosition_15 hx F M _ h
  · replace h := sm_if c1 h
    refine sm_iload_n (q := 5) d_X11_needPosition_4 rfl rfl ?_
    refine sm_aload_n (q := 6) d_X11_needPosition_5 rfl rfl ?_
    refine sm_getr (q := 9) d_X11_needPosition_6 rfl fl_X11_26 (hx sx_0) rfl ?_
    refine sm_geti (q := 12) d_X11_needPosition_9 rfl fl_X11_130 (hx sx_24) rfl ?_
    refine sm_icmp_lt (q := 15) (t := 26) d_X11_needPosition_12 rfl rfl (fun c2 => ?_) (fun c2 => ?_)
    · replace h := sm_it c2 h
      obtain rfl := Option.some.inj h
      exact sm_vret d_X11_needPosition_26 rfl rfl rfl
    · replace h := sm_if c2 h
      refine sm_fg [0, 1] ?_
      exact j_X11_needPosition_15 hx F M _ h
theorem n_X11_needPosition {F : Nat} {x1 : Int32} {M M1 : sm_M} {v : Option Value} (h : f_X11_needPosition F x1 M = some (.inl v, M1)) : v = none := by
  exact (show sm_nv (f_X11_needPosition F x1 M) from by unfold f_X11_needPosition; exact sm_nv_if sm_nv_thr (sm_nv_if sm_nv_ret sm_nv_thr)) _ _ h
theorem c_X11_needPosition {sk : List sm_Sh} (hx : sm_ext skX sk) (F : Nat) (x1 : Int32) (M : sm_M) (r : sm_O × sm_M) (h : f_X11_needPosition F x1 M = some r) : sm_Ct yX11_needPosition md_X11_needPosition 6 sk [.ref 0, .int x1] M (r.1) r.2 := sm_enter 0 pn_X11 rfl (Nat.le_of_ble_eq_true rfl) rfl (j_X11_needPosition hx F x1 M r h)
/-! UniversalCycles.setSymbol(II)I -/
theorem d_X11_setSymbol_0 : decode cX11_setSymbol 0 = .ok (.aload_n 0, 1) := by decide +kernel
theorem d_X11_setSymbol_1 : decode cX11_setSymbol 1 = .ok (.iload_n 1, 1) := by decide +kernel
theorem d_X11_setSymbol_2 : decode cX11_setSymbol 2 = .ok (.invokevirtual 143, 3) := by decide +kernel
theorem d_X11_setSymbol_5 : decode cX11_setSymbol 5 = .ok (.aload_n 0, 1) := by decide +kernel
theorem d_X11_setSymbol_6 : decode cX11_setSymbol 6 = .ok (.iload_n 2, 1) := by decide +kernel
theorem d_X11_setSymbol_7 : decode cX11_setSymbol 7 = .ok (.invokevirtual 127, 3) := by decide +kernel
theorem d_X11_setSymbol_10 : decode cX11_setSymbol 10 = .ok (.aload_n 0, 1) := by decide +kernel
theorem d_X11_setSymbol_11 : decode cX11_setSymbol 11 = .ok (.getfield 33, 3) := by decide +kernel
theorem d_X11_setSymbol_14 : decode cX11_setSymbol 14 = .ok (.aload_n 0, 1) := by decide +kernel
theorem d_X11_setSymbol_15 : decode cX11_setSymbol 15 = .ok (.getfield 26, 3) := by decide +kernel
theorem d_X11_setSymbol_18 : decode cX11_setSymbol 18 = .ok (.invokevirtual 136, 3) := by decide +kernel
theorem d_X11_setSymbol_21 : decode cX11_setSymbol 21 = .ok (.pop, 1) := by decide +kernel
theorem d_X11_setSymbol_22 : decode cX11_setSymbol 22 = .ok (.aload_n 0, 1) := by decide +kernel
theorem d_X11_setSymbol_23 : decode cX11_setSymbol 23 = .ok (.getfield 26, 3) := by decide +kernel
theorem d_X11_setSymbol_26 : decode cX11_setSymbol 26 = .ok (.getfield 146, 3) := by decide +kernel
theorem d_X11_setSymbol_29 : decode cX11_setSymbol 29 = .ok (.iload_n 1, 1) := by decide +kernel
theorem d_X11_setSymbol_30 : decode cX11_setSymbol 30 = .ok (.iaload, 1) := by decide +kernel
theorem d_X11_setSymbol_31 : decode cX11_setSymbol 31 = .ok (.istore_n 3, 1) := by decide +kernel
theorem d_X11_setSymbol_32 : decode cX11_setSymbol 32 = .ok (.aload_n 0, 1) := by decide +kernel
theorem d_X11_setSymbol_33 : decode cX11_setSymbol 33 = .ok (.getfield 26, 3) := by decide +kernel
theorem d_X11_setSymbol_36 : decode cX11_setSymbol 36 = .ok (.getfield 146, 3) := by decide +kernel
theorem d_X11_setSymbol_39 : decode cX11_setSymbol 39 = .ok (.iload_n 1, 1) := by decide +kernel
theorem d_X11_setSymbol_40 : decode cX11_setSymbol 40 = .ok (.iload_n 2, 1) := by decide +kernel
theorem d_X11_setSymbol_41 : decode cX11_setSymbol 41 = .ok (.iastore, 1) := by decide +kernel
theorem d_X11_setSymbol_42 : decode cX11_setSymbol 42 = .ok (.iload_n 3, 1) := by decide +kernel
theorem d_X11_setSymbol_43 : decode cX11_setSymbol 43 = .ok (.ireturn, 1) := by decide +kernel
def f_X11_setSymbol (F : Nat) (x1 : Int32) (x2 : Int32) (M : sm_M) : Option (sm_O × sm_M) := sm_bx (f_X11_needPosition F x1 M) (fun M2 => sm_bx (f_X11_needSymbol F x2 M2) (fun M5 => (f_X6_remember F 24 M5).bind fun q7 => sm_g (sm_ib x1 240) (sm_g (sm_ib x1 240) (some (.inl (some (.int (q7.2.1 25 x1.toNatClampNeg))), (sm_mi q7.2 25 x1.toNatClampNeg x2))))))
set_option maxRecDepth 100000 in
set_option maxHeartbeats 4000000 in
theorem j_X11_setSymbol {sk : List sm_Sh} (hx : sm_ext skX sk) (F : Nat) : ∀ (x1 : Int32) (x2 : Int32) (M : sm_M) (r : sm_O × sm_M), f_X11_setSymbol F x1 x2 M = some r → sm_J (md_X11_setSymbol, 7, sk, r.1, r.2) 0 [some (.ref 0), some (.int x1), some (.int x2), none] [] M := by
  intro x1 x2  M r h
  unfold f_X11_setSymbol at h
  refine sm_aload_n (q := 1) d_X11_setSymbol_0 rfl rfl ?_
  refine sm_iload_n (q := 2) d_X11_setSymbol_1 rfl rfl ?_
  rcases sm_bxs h with ⟨v3, M2, e1, h⟩ | ⟨v3, M2, e1, rfl⟩
  · obtain rfl := n_X11_needPosition e1
    refine sm_callV (q := 5) (d' := 6) [] [.int x1] d_X11_setSymbol_2 rfl lk_X11_143 (hx sx_0) rfl rfl rfl (Nat.le_of_ble_eq_true rfl) (Nat.le_of_ble_eq_true rfl) (c_X11_needPosition hx F x1 M (.inl none, M2) e1) (st9 := []) rfl ?_
    refine sm_aload_n (q := 6) d_X11_setSymbol_5 rfl rfl ?_
    refine sm_iload_n (q := 7) d_X11_setSymbol_6 rfl rfl ?_
    rcases sm_bxs h with ⟨v6, M5, e4, h⟩ | ⟨v6, M5, e4, rfl⟩
    · obtain rfl := n_X11_needSymbol e4
      refine sm_callV (q := 10) (d' := 6) [] [.int x2] d_X11_setSymbol_7 rfl lk_X11_127 (hx sx_0) rfl rfl rfl (Nat.le_of_ble_eq_true rfl) (Nat.le_of_ble_eq_true rfl) (c_X11_needSymbol hx F x2 M2 (.inl none, M5) e4) (st9 := []) rfl ?_
      refine sm_aload_n (q := 11) d_X11_setSymbol_10 rfl rfl ?_
      refine sm_getr (q := 14) d_X11_setSymbol_11 rfl fl_X11_33 (hx sx_0) rfl ?_
      refine sm_aload_n (q := 15) d_X11_setSymbol_14 rfl rfl ?_
      refine sm_getr (q := 18) d_X11_setSymbol_15 rfl fl_X11_26 (hx sx_0) rfl ?_
      obtain ⟨q7, e7, h⟩ := sm_bd h
      refine sm_callV (q := 21) (d' := 2) [] [.ref 24] d_X11_setSymbol_18 rfl lk_X11_136 (hx sx_26) rfl rfl rfl (Nat.le_of_ble_eq_true rfl) (Nat.le_of_ble_eq_true rfl) (c_X6_remember hx F 24 ⟨hx sx_24, hx sx_25⟩ M5 _ e7) (st9 := [.ref q7.1]) rfl ?_
      refine sm_pop (q := 22) d_X11_setSymbol_21 rfl rfl ?_
      refine sm_aload_n (q := 23) d_X11_setSymbol_22 rfl rfl ?_
      refine sm_getr (q := 26) d_X11_setSymbol_23 rfl fl_X11_26 (hx sx_0) rfl ?_
      refine sm_getr (q := 29) d_X11_setSymbol_26 rfl fl_X11_146 (hx sx_24) rfl ?_
      refine sm_iload_n (q := 30) d_X11_setSymbol_29 rfl rfl ?_
      obtain ⟨g8, h⟩ := sm_gt h
      refine sm_iaload (q := 31) d_X11_setSymbol_30 rfl (hx sx_25) (sm_ib_of g8) ?_
      refine sm_istore_n (q := 32) (lt := [some (.ref 0), some (.int x1), some (.int x2), some (.int (q7.2.1 25 x1.toNatClampNeg))]) d_X11_setSymbol_31 rfl (Nat.le_of_ble_eq_true rfl) rfl rfl ?_
      refine sm_aload_n (q := 33) d_X11_setSymbol_32 rfl rfl ?_
      refine sm_getr (q := 36) d_X11_setSymbol_33 rfl fl_X11_26 (hx sx_0) rfl ?_
      refine sm_getr (q := 39) d_X11_setSymbol_36 rfl fl_X11_146 (hx sx_24) rfl ?_
      refine sm_iload_n (q := 40) d_X11_setSymbol_39 rfl rfl ?_
      refine sm_iload_n (q := 41) d_X11_setSymbol_40 rfl rfl ?_
      obtain ⟨g9, h⟩ := sm_gt h
      refine sm_iastore (q := 42) d_X11_setSymbol_41 rfl (hx sx_25) (sm_ib_of g9) ?_
      refine sm_iload_n (q := 43) d_X11_setSymbol_42 rfl rfl ?_
      obtain rfl := Option.some.inj h
      exact sm_iret d_X11_setSymbol_43 rfl rfl rfl rfl
    · exact sm_callVX (d' := 6) [] [.int x2] d_X11_setSymbol_7 lk_X11_127 (hx sx_0) rfl rfl rfl (Nat.le_of_ble_eq_true rfl) (Nat.le_of_ble_eq_true rfl) (c_X11_needSymbol hx F x2 M2 (.inr v6, M5) e4) rfl rfl
  · exact sm_callVX (d' := 6) [] [.int x1] d_X11_setSymbol_2 lk_X11_143 (hx sx_0) rfl rfl rfl (Nat.le_of_ble_eq_true rfl) (Nat.le_of_ble_eq_true rfl) (c_X11_needPosition hx F x1 M (.inr v3, M2) e1) rfl rfl
theorem c_X11_setSymbol {sk : List sm_Sh} (hx : sm_ext skX sk) (F : Nat) (x1 : Int32) (x2 : Int32) (M : sm_M) (r : sm_O × sm_M) (h : f_X11_setSymbol F x1 x2 M = some r) : sm_Ct yX11_setSymbol md_X11_setSymbol 7 sk [.ref 0, .int x1, .int x2] M (r.1) r.2 := sm_enter 1 pn_X11 rfl (Nat.le_of_ble_eq_true rfl) rfl (j_X11_setSymbol hx F x1 x2 M r h)
/-! UniversalCycles.symbolAt(I)I -/
theorem d_X11_symbolAt_0 : decode cX11_symbolAt 0 = .ok (.aload_n 0, 1) := by decide +kernel
theorem d_X11_symbolAt_1 : decode cX11_symbolAt 1 = .ok (.iload_n 1, 1) := by decide +kernel
theorem d_X11_symbolAt_2 : decode cX11_symbolAt 2 = .ok (.invokevirtual 143, 3) := by decide +kernel
theorem d_X11_symbolAt_5 : decode cX11_symbolAt 5 = .ok (.aload_n 0, 1) := by decide +kernel
theorem d_X11_symbolAt_6 : decode cX11_symbolAt 6 = .ok (.getfield 26, 3) := by decide +kernel
theorem d_X11_symbolAt_9 : decode cX11_symbolAt 9 = .ok (.getfield 146, 3) := by decide +kernel
theorem d_X11_symbolAt_12 : decode cX11_symbolAt 12 = .ok (.iload_n 1, 1) := by decide +kernel
theorem d_X11_symbolAt_13 : decode cX11_symbolAt 13 = .ok (.iaload, 1) := by decide +kernel
theorem d_X11_symbolAt_14 : decode cX11_symbolAt 14 = .ok (.ireturn, 1) := by decide +kernel
def f_X11_symbolAt (F : Nat) (x1 : Int32) (M : sm_M) : Option (sm_O × sm_M) := sm_bx (f_X11_needPosition F x1 M) (fun M2 => sm_g (sm_ib x1 240) (some (.inl (some (.int (M2.1 25 x1.toNatClampNeg))), M2)))
set_option maxRecDepth 100000 in
set_option maxHeartbeats 4000000 in
theorem j_X11_symbolAt {sk : List sm_Sh} (hx : sm_ext skX sk) (F : Nat) : ∀ (x1 : Int32) (M : sm_M) (r : sm_O × sm_M), f_X11_symbolAt F x1 M = some r → sm_J (md_X11_symbolAt, 7, sk, r.1, r.2) 0 [some (.ref 0), some (.int x1)] [] M := by
  intro x1  M r h
  unfold f_X11_symbolAt at h
  refine sm_aload_n (q := 1) d_X11_symbolAt_0 rfl rfl ?_
  refine sm_iload_n (q := 2) d_X11_symbolAt_1 rfl rfl ?_
  rcases sm_bxs h with ⟨v3, M2, e1, h⟩ | ⟨v3, M2, e1, rfl⟩
  · obtain rfl := n_X11_needPosition e1
    refine sm_callV (q := 5) (d' := 6) [] [.int x1] d_X11_symbolAt_2 rfl lk_X11_143 (hx sx_0) rfl rfl rfl (Nat.le_of_ble_eq_true rfl) (Nat.le_of_ble_eq_true rfl) (c_X11_needPosition hx F x1 M (.inl none, M2) e1) (st9 := []) rfl ?_
    refine sm_aload_n (q := 6) d_X11_symbolAt_5 rfl rfl ?_
    refine sm_getr (q := 9) d_X11_symbolAt_6 rfl fl_X11_26 (hx sx_0) rfl ?_
    refine sm_getr (q := 12) d_X11_symbolAt_9 rfl fl_X11_146 (hx sx_24) rfl ?_
    refine sm_iload_n (q := 13) d_X11_symbolAt_12 rfl rfl ?_
    obtain ⟨g4, h⟩ := sm_gt h
    refine sm_iaload (q := 14) d_X11_symbolAt_13 rfl (hx sx_25) (sm_ib_of g4) ?_
    obtain rfl := Option.some.inj h
    exact sm_iret d_X11_symbolAt_14 rfl rfl rfl rfl
  · exact sm_callVX (d' := 6) [] [.int x1] d_X11_symbolAt_2 lk_X11_143 (hx sx_0) rfl rfl rfl (Nat.le_of_ble_eq_true rfl) (Nat.le_of_ble_eq_true rfl) (c_X11_needPosition hx F x1 M (.inr v3, M2) e1) rfl rfl
theorem c_X11_symbolAt {sk : List sm_Sh} (hx : sm_ext skX sk) (F : Nat) (x1 : Int32) (M : sm_M) (r : sm_O × sm_M) (h : f_X11_symbolAt F x1 M = some r) : sm_Ct yX11_symbolAt md_X11_symbolAt 7 sk [.ref 0, .int x1] M (r.1) r.2 := sm_enter 0 pn_X11 rfl (Nat.le_of_ble_eq_true rfl) rfl (j_X11_symbolAt hx F x1 M r h)
