/-! ===== methods, decompiled: 15e.face ===== -/
/-! UniversalCycles.edgeEnd(IZ)I -/
theorem d_X11_edgeEnd_0 : decode cX11_edgeEnd 0 = .ok (.aload_n 0, 1) := by decide +kernel
theorem d_X11_edgeEnd_1 : decode cX11_edgeEnd 1 = .ok (.invokevirtual 251, 3) := by decide +kernel
theorem d_X11_edgeEnd_4 : decode cX11_edgeEnd 4 = .ok (.aload_n 0, 1) := by decide +kernel
theorem d_X11_edgeEnd_5 : decode cX11_edgeEnd 5 = .ok (.iload_n 1, 1) := by decide +kernel
theorem d_X11_edgeEnd_6 : decode cX11_edgeEnd 6 = .ok (.invokevirtual 107, 3) := by decide +kernel
theorem d_X11_edgeEnd_9 : decode cX11_edgeEnd 9 = .ok (.iload_n 2, 1) := by decide +kernel
theorem d_X11_edgeEnd_10 : decode cX11_edgeEnd 10 = .ok (.ifCond .eq 18, 3) := by decide +kernel
theorem d_X11_edgeEnd_13 : decode cX11_edgeEnd 13 = .ok (.aload_n 0, 1) := by decide +kernel
theorem d_X11_edgeEnd_14 : decode cX11_edgeEnd 14 = .ok (.getfield 19, 3) := by decide +kernel
theorem d_X11_edgeEnd_17 : decode cX11_edgeEnd 17 = .ok (.getfield 257, 3) := by decide +kernel
theorem d_X11_edgeEnd_20 : decode cX11_edgeEnd 20 = .ok (.getfield 261, 3) := by decide +kernel
theorem d_X11_edgeEnd_23 : decode cX11_edgeEnd 23 = .ok (.iload_n 1, 1) := by decide +kernel
theorem d_X11_edgeEnd_24 : decode cX11_edgeEnd 24 = .ok (.iaload, 1) := by decide +kernel
theorem d_X11_edgeEnd_25 : decode cX11_edgeEnd 25 = .ok (.goto 15, 3) := by decide +kernel
theorem d_X11_edgeEnd_28 : decode cX11_edgeEnd 28 = .ok (.aload_n 0, 1) := by decide +kernel
theorem d_X11_edgeEnd_29 : decode cX11_edgeEnd 29 = .ok (.getfield 19, 3) := by decide +kernel
theorem d_X11_edgeEnd_32 : decode cX11_edgeEnd 32 = .ok (.getfield 266, 3) := by decide +kernel
theorem d_X11_edgeEnd_35 : decode cX11_edgeEnd 35 = .ok (.getfield 261, 3) := by decide +kernel
theorem d_X11_edgeEnd_38 : decode cX11_edgeEnd 38 = .ok (.iload_n 1, 1) := by decide +kernel
theorem d_X11_edgeEnd_39 : decode cX11_edgeEnd 39 = .ok (.iaload, 1) := by decide +kernel
theorem d_X11_edgeEnd_40 : decode cX11_edgeEnd 40 = .ok (.ireturn, 1) := by decide +kernel
def f_X11_edgeEnd_40 (F : Nat) (y0 : Int32) (M : sm_M) : Option (sm_O × sm_M) := some (.inl (some (.int y0)), M)
set_option maxRecDepth 100000 in
set_option maxHeartbeats 4000000 in
theorem j_X11_edgeEnd_40 {sk : List sm_Sh} (hx : sm_ext skX sk) (F : Nat) : ∀ (y0 : Int32) (M : sm_M) (r : sm_O × sm_M), f_X11_edgeEnd_40 F y0 M = some r → sm_J (md_X11_edgeEnd, 7, sk, r.1, r.2) 40 [none, none, none] [.int y0] M := by
  intro y0  M r h
  unfold f_X11_edgeEnd_40 at h
  obtain rfl := Option.some.inj h
  exact sm_iret d_X11_edgeEnd_40 rfl rfl rfl rfl
def f_X11_edgeEnd (F : Nat) (x1 : Int32) (x2 : Int32) (M : sm_M) : Option (sm_O × sm_M) := sm_bx (f_X11_needGraph F M) (fun M2 => sm_bx (f_X11_needElement F x1 M2) (fun M5 => if x2 = 0 then (sm_g (sm_ib x1 200) (f_X11_edgeEnd_40 F (M5.1 10 x1.toNatClampNeg) M5)) else (sm_g (sm_ib x1 200) (f_X11_edgeEnd_40 F (M5.1 14 x1.toNatClampNeg) M5))))
set_option maxRecDepth 100000 in
set_option maxHeartbeats 4000000 in
theorem j_X11_edgeEnd {sk : List sm_Sh} (hx : sm_ext skX sk) (F : Nat) : ∀ (x1 : Int32) (x2 : Int32) (M : sm_M) (r : sm_O × sm_M), f_X11_edgeEnd F x1 x2 M = some r → sm_J (md_X11_edgeEnd, 7, sk, r.1, r.2) 0 [some (.ref 0), some (.int x1), some (.int x2)] [] M := by
  intro x1 x2  M r h
  unfold f_X11_edgeEnd at h
  refine sm_aload_n (q := 1) d_X11_edgeEnd_0 rfl rfl ?_
  rcases sm_bxs h with ⟨v3, M2, e1, h⟩ | ⟨v3, M2, e1, rfl⟩
  · obtain rfl := n_X11_needGraph e1
    refine sm_callV (q := 4) (d' := 6) [] [] d_X11_edgeEnd_1 rfl lk_X11_251 (hx sx_0) rfl rfl rfl (Nat.le_of_ble_eq_true rfl) (Nat.le_of_ble_eq_true rfl) (c_X11_needGraph hx F M (.inl none, M2) e1) (st9 := []) rfl ?_
    refine sm_aload_n (q := 5) d_X11_edgeEnd_4 rfl rfl ?_
    refine sm_iload_n (q := 6) d_X11_edgeEnd_5 rfl rfl ?_
    rcases sm_bxs h with ⟨v6, M5, e4, h⟩ | ⟨v6, M5, e4, rfl⟩
    · obtain rfl := n_X11_needElement e4
      refine sm_callV (q := 9) (d' := 6) [] [.int x1] d_X11_edgeEnd_6 rfl lk_X11_107 (hx sx_0) rfl rfl rfl (Nat.le_of_ble_eq_true rfl) (Nat.le_of_ble_eq_true rfl) (c_X11_needElement hx F x1 M2 (.inl none, M5) e4) (st9 := []) rfl ?_
      refine sm_iload_n (q := 10) d_X11_edgeEnd_9 rfl rfl ?_
      refine sm_if_eq (q := 13) (t := 28) d_X11_edgeEnd_10 rfl rfl (fun c7 => ?_) (fun c7 => ?_)
      · replace h := sm_it c7 h
        refine sm_aload_n (q := 29) d_X11_edgeEnd_28 rfl rfl ?_
        refine sm_getr (q := 32) d_X11_edgeEnd_29 rfl fl_X11_19 (hx sx_0) rfl ?_
        refine sm_getr (q := 35) d_X11_edgeEnd_32 rfl fl_X11_266 (hx sx_5) rfl ?_
        refine sm_getr (q := 38) d_X11_edgeEnd_35 rfl fl_X11_261 (hx sx_9) rfl ?_
        refine sm_iload_n (q := 39) d_X11_edgeEnd_38 rfl rfl ?_
        obtain ⟨g8, h⟩ := sm_gt h
        refine sm_iaload (q := 40) d_X11_edgeEnd_39 rfl (hx sx_10) (sm_ib_of g8) ?_
        refine sm_fg [0, 1, 2] ?_
        exact j_X11_edgeEnd_40 hx F (M5.1 10 x1.toNatClampNeg) M5 _ h
      · replace h := sm_if c7 h
        refine sm_aload_n (q := 14) d_X11_edgeEnd_13 rfl rfl ?_
        refine sm_getr (q := 17) d_X11_edgeEnd_14 rfl fl_X11_19 (hx sx_0) rfl ?_
        refine sm_getr (q := 20) d_X11_edgeEnd_17 rfl fl_X11_257 (hx sx_5) rfl ?_
        refine sm_getr (q := 23) d_X11_edgeEnd_20 rfl fl_X11_261 (hx sx_13) rfl ?_
        refine sm_iload_n (q := 24) d_X11_edgeEnd_23 rfl rfl ?_
        obtain ⟨g9, h⟩ := sm_gt h
        refine sm_iaload (q := 25) d_X11_edgeEnd_24 rfl (hx sx_14) (sm_ib_of g9) ?_
        refine sm_goto (t := 40) d_X11_edgeEnd_25 rfl ?_
        refine sm_fg [0, 1, 2] ?_
        exact j_X11_edgeEnd_40 hx F (M5.1 14 x1.toNatClampNeg) M5 _ h
    · exact sm_callVX (d' := 6) [] [.int x1] d_X11_edgeEnd_6 lk_X11_107 (hx sx_0) rfl rfl rfl (Nat.le_of_ble_eq_true rfl) (Nat.le_of_ble_eq_true rfl) (c_X11_needElement hx F x1 M2 (.inr v6, M5) e4) rfl rfl
  · exact sm_callVX (d' := 6) [] [] d_X11_edgeEnd_1 lk_X11_251 (hx sx_0) rfl rfl rfl (Nat.le_of_ble_eq_true rfl) (Nat.le_of_ble_eq_true rfl) (c_X11_needGraph hx F M (.inr v3, M2) e1) rfl rfl
theorem c_X11_edgeEnd {sk : List sm_Sh} (hx : sm_ext skX sk) (F : Nat) (x1 : Int32) (x2 : Int32) (M : sm_M) (r : sm_O × sm_M) (h : f_X11_edgeEnd F x1 x2 M = some r) : sm_Ct yX11_edgeEnd md_X11_edgeEnd 7 sk [.ref 0, .int x1, .int x2] M (r.1) r.2 := sm_enter 0 pn_X11 rfl (Nat.le_of_ble_eq_true rfl) rfl (j_X11_edgeEnd hx F x1 x2 M r h)
/-! UniversalCycles.needVertex(I)V -/
theorem d_X11_needVertex_0 : decode cX11_needVertex 0 = .ok (.iload_n 1, 1) := by decide +kernel
theorem d_X11_needVertex_1 : decode cX11_needVertex 1 = .ok (.ifCond .lt 17, 3) := by decide +kernel
theorem d_X11_needVertex_4 : decode cX11_needVertex 4 = .ok (.iload_n 1, 1) := by decide +kernel
theorem d_X11_needVertex_5 : decode cX11_needVertex 5 = .ok (.aload_n 0, 1) := by decide +kernel
theorem d_X11_needVertex_6 : decode cX11_needVertex 6 = .ok (.getfield 19, 3) := by decide +kernel
theorem d_X11_needVertex_9 : decode cX11_needVertex 9 = .ok (.getfield 254, 3) := by decide +kernel
theorem d_X11_needVertex_12 : decode cX11_needVertex 12 = .ok (.getfield 101, 3) := by decide +kernel
theorem d_X11_needVertex_15 : decode cX11_needVertex 15 = .ok (.if_icmp .lt 14, 3) := by decide +kernel
theorem d_X11_needVertex_18 : decode cX11_needVertex 18 = .ok (.new 114, 3) := by decide +kernel
theorem d_X11_needVertex_21 : decode cX11_needVertex 21 = .ok (.dup, 1) := by decide +kernel
theorem d_X11_needVertex_22 : decode cX11_needVertex 22 = .ok (.ldc_w 348, 3) := by decide +kernel
theorem d_X11_needVertex_25 : decode cX11_needVertex 25 = .ok (.invokespecial 118, 3) := by decide +kernel
theorem d_X11_needVertex_28 : decode cX11_needVertex 28 = .ok (.athrow, 1) := by decide +kernel
theorem d_X11_needVertex_29 : decode cX11_needVertex 29 = .ok (.return_, 1) := by decide +kernel
def f_X11_needVertex_18 (F : Nat) (M : sm_M) : Option (sm_O × sm_M) := some (.inr "java/lang/IndexOutOfBoundsException", M)
set_option maxRecDepth 100000 in
set_option maxHeartbeats 4000000 in
theorem j_X11_needVertex_18 {sk : List sm_Sh} (hx : sm_ext skX sk) (F : Nat) : ∀ (M : sm_M) (r : sm_O × sm_M), f_X11_needVertex_18 F M = some r → sm_J (md_X11_needVertex, 6, sk, r.1, r.2) 18 [none, none] [] M := by
  intro   M r h
  unfold f_X11_needVertex_18 at h
  obtain rfl := Option.some.inj h
  exact sm_throwW lt_X11_114_348_118 d_X11_needVertex_18 d_X11_needVertex_21 d_X11_needVertex_22 d_X11_needVertex_25 d_X11_needVertex_28 (Nat.le_of_ble_eq_true rfl) (Nat.le_of_ble_eq_true rfl) rfl rfl
def f_X11_needVertex (F : Nat) (x1 : Int32) (M : sm_M) : Option (sm_O × sm_M) := if x1 < 0 then (f_X11_needVertex_18 F M) else (if x1 < (M.1 6 2) then (some (.inl none, M)) else (f_X11_needVertex_18 F M))
set_option maxRecDepth 100000 in
set_option maxHeartbeats 4000000 in
theorem j_X11_needVertex {sk : List sm_Sh} (hx : sm_ext skX sk) (F : Nat) : ∀ (x1 : Int32) (M : sm_M) (r : sm_O × sm_M), f_X11_needVertex F x1 M = some r → sm_J (md_X11_needVertex, 6, sk, r.1, r.2) 0 [some (.ref 0), some (.int x1)] [] M := by
  intro x1  M r h
  unfold f_X11_needVertex at h
  refine sm_iload_n (q := 1) d_X11_needVertex_0 rfl rfl ?_
  refine sm_if_lt (q := 4) (t := 18) d_X11_needVertex_1 rfl rfl (fun c1 => ?_) (fun c1 => ?_)
  · replace h := sm_it c1 h
    refine sm_fg [0, 1] ?_
    exact j_X11_needVertex_18 hx F M _ h
  · replace h := sm_if c1 h
    refine sm_iload_n (q := 5) d_X11_needVertex_4 rfl rfl ?_
    refine sm_aload_n (q := 6) d_X11_needVertex_5 rfl rfl ?_
    refine sm_getr (q := 9) d_X11_needVertex_6 rfl fl_X11_19 (hx sx_0) rfl ?_
    refine sm_getr (q := 12) d_X11_needVertex_9 rfl fl_X11_254 (hx sx_5) rfl ?_
    refine sm_geti (q := 15) d_X11_needVertex_12 rfl fl_X11_101 (hx sx_6) rfl ?_
    refine sm_icmp_lt (q := 18) (t := 29) d_X11_needVertex_15 rfl rfl (fun c2 => ?_) (fun c2 => ?_)
    · replace h := sm_it c2 h
      obtain rfl := Option.some.inj h
      exact sm_vret d_X11_needVertex_29 rfl rfl rfl
    · replace h := sm_if c2 h
      refine sm_fg [0, 1] ?_
      exact j_X11_needVertex_18 hx F M _ h
theorem n_X11_needVertex {F : Nat} {x1 : Int32} {M M1 : sm_M} {v : Option Value} (h : f_X11_needVertex F x1 M = some (.inl v, M1)) : v = none := by
  exact (show sm_nv (f_X11_needVertex F x1 M) from by unfold f_X11_needVertex; exact sm_nv_if sm_nv_thr (sm_nv_if sm_nv_ret sm_nv_thr)) _ _ h
theorem c_X11_needVertex {sk : List sm_Sh} (hx : sm_ext skX sk) (F : Nat) (x1 : Int32) (M : sm_M) (r : sm_O × sm_M) (h : f_X11_needVertex F x1 M = some r) : sm_Ct yX11_needVertex md_X11_needVertex 6 sk [.ref 0, .int x1] M (r.1) r.2 := sm_enter 0 pn_X11 rfl (Nat.le_of_ble_eq_true rfl) rfl (j_X11_needVertex hx F x1 M r h)
/-! UniversalCycles.inDegree(I)I -/
theorem d_X11_inDegree_0 : decode cX11_inDegree 0 = .ok (.aload_n 0, 1) := by decide +kernel
theorem d_X11_inDegree_1 : decode cX11_inDegree 1 = .ok (.invokevirtual 251, 3) := by decide +kernel
theorem d_X11_inDegree_4 : decode cX11_inDegree 4 = .ok (.aload_n 0, 1) := by decide +kernel
theorem d_X11_inDegree_5 : decode cX11_inDegree 5 = .ok (.iload_n 1, 1) := by decide +kernel
theorem d_X11_inDegree_6 : decode cX11_inDegree 6 = .ok (.invokevirtual 269, 3) := by decide +kernel
theorem d_X11_inDegree_9 : decode cX11_inDegree 9 = .ok (.aload_n 0, 1) := by decide +kernel
theorem d_X11_inDegree_10 : decode cX11_inDegree 10 = .ok (.getfield 19, 3) := by decide +kernel
theorem d_X11_inDegree_13 : decode cX11_inDegree 13 = .ok (.getfield 257, 3) := by decide +kernel
theorem d_X11_inDegree_16 : decode cX11_inDegree 16 = .ok (.iload_n 1, 1) := by decide +kernel
theorem d_X11_inDegree_17 : decode cX11_inDegree 17 = .ok (.invokevirtual 272, 3) := by decide +kernel
theorem d_X11_inDegree_20 : decode cX11_inDegree 20 = .ok (.ireturn, 1) := by decide +kernel
def f_X11_inDegree (F : Nat) (x1 : Int32) (M : sm_M) : Option (sm_O × sm_M) := sm_bx (f_X11_needGraph F M) (fun M2 => sm_bx (f_X11_needVertex F x1 M2) (fun M5 => (f_X3_degree F 13 x1 M5).bind fun q7 => some (.inl (some (.int q7)), M5)))
set_option maxRecDepth 100000 in
set_option maxHeartbeats 4000000 in
theorem j_X11_inDegree {sk : List sm_Sh} (hx : sm_ext skX sk) (F : Nat) : ∀ (x1 : Int32) (M : sm_M) (r : sm_O × sm_M), f_X11_inDegree F x1 M = some r → sm_J (md_X11_inDegree, 7, sk, r.1, r.2) 0 [some (.ref 0), some (.int x1)] [] M := by
  intro x1  M r h
  unfold f_X11_inDegree at h
  refine sm_aload_n (q := 1) d_X11_inDegree_0 rfl rfl ?_
  rcases sm_bxs h with ⟨v3, M2, e1, h⟩ | ⟨v3, M2, e1, rfl⟩
  · obtain rfl := n_X11_needGraph e1
    refine sm_callV (q := 4) (d' := 6) [] [] d_X11_inDegree_1 rfl lk_X11_251 (hx sx_0) rfl rfl rfl (Nat.le_of_ble_eq_true rfl) (Nat.le_of_ble_eq_true rfl) (c_X11_needGraph hx F M (.inl none, M2) e1) (st9 := []) rfl ?_
    refine sm_aload_n (q := 5) d_X11_inDegree_4 rfl rfl ?_
    refine sm_iload_n (q := 6) d_X11_inDegree_5 rfl rfl ?_
    rcases sm_bxs h with ⟨v6, M5, e4, h⟩ | ⟨v6, M5, e4, rfl⟩
    · obtain rfl := n_X11_needVertex e4
      refine sm_callV (q := 9) (d' := 6) [] [.int x1] d_X11_inDegree_6 rfl lk_X11_269 (hx sx_0) rfl rfl rfl (Nat.le_of_ble_eq_true rfl) (Nat.le_of_ble_eq_true rfl) (c_X11_needVertex hx F x1 M2 (.inl none, M5) e4) (st9 := []) rfl ?_
      refine sm_aload_n (q := 10) d_X11_inDegree_9 rfl rfl ?_
      refine sm_getr (q := 13) d_X11_inDegree_10 rfl fl_X11_19 (hx sx_0) rfl ?_
      refine sm_getr (q := 16) d_X11_inDegree_13 rfl fl_X11_257 (hx sx_5) rfl ?_
      refine sm_iload_n (q := 17) d_X11_inDegree_16 rfl rfl ?_
      obtain ⟨q7, e7, h⟩ := sm_bd h
      refine sm_callV (q := 20) (d' := 0) [] [.int x1] d_X11_inDegree_17 rfl lk_X11_272 (hx sx_13) rfl rfl rfl (Nat.le_of_ble_eq_true rfl) (Nat.le_of_ble_eq_true rfl) (c_X3_degree hx F 13 ⟨hx sx_13, hx sx_14, hx sx_15, hx sx_16⟩ x1 M5 _ e7) (st9 := [.int q7]) rfl ?_
      obtain rfl := Option.some.inj h
      exact sm_iret d_X11_inDegree_20 rfl rfl rfl rfl
    · exact sm_callVX (d' := 6) [] [.int x1] d_X11_inDegree_6 lk_X11_269 (hx sx_0) rfl rfl rfl (Nat.le_of_ble_eq_true rfl) (Nat.le_of_ble_eq_true rfl) (c_X11_needVertex hx F x1 M2 (.inr v6, M5) e4) rfl rfl
  · exact sm_callVX (d' := 6) [] [] d_X11_inDegree_1 lk_X11_251 (hx sx_0) rfl rfl rfl (Nat.le_of_ble_eq_true rfl) (Nat.le_of_ble_eq_true rfl) (c_X11_needGraph hx F M (.inr v3, M2) e1) rfl rfl
theorem c_X11_inDegree {sk : List sm_Sh} (hx : sm_ext skX sk) (F : Nat) (x1 : Int32) (M : sm_M) (r : sm_O × sm_M) (h : f_X11_inDegree F x1 M = some r) : sm_Ct yX11_inDegree md_X11_inDegree 7 sk [.ref 0, .int x1] M (r.1) r.2 := sm_enter 0 pn_X11 rfl (Nat.le_of_ble_eq_true rfl) rfl (j_X11_inDegree hx F x1 M r h)
/-! UniversalCycles.distance(II)I -/
theorem d_X11_distance_0 : decode cX11_distance 0 = .ok (.aload_n 0, 1) := by decide +kernel
theorem d_X11_distance_1 : decode cX11_distance 1 = .ok (.invokevirtual 251, 3) := by decide +kernel
theorem d_X11_distance_4 : decode cX11_distance 4 = .ok (.aload_n 0, 1) := by decide +kernel
theorem d_X11_distance_5 : decode cX11_distance 5 = .ok (.iload_n 1, 1) := by decide +kernel
theorem d_X11_distance_6 : decode cX11_distance 6 = .ok (.invokevirtual 269, 3) := by decide +kernel
theorem d_X11_distance_9 : decode cX11_distance 9 = .ok (.aload_n 0, 1) := by decide +kernel
theorem d_X11_distance_10 : decode cX11_distance 10 = .ok (.iload_n 2, 1) := by decide +kernel
theorem d_X11_distance_11 : decode cX11_distance 11 = .ok (.invokevirtual 269, 3) := by decide +kernel
theorem d_X11_distance_14 : decode cX11_distance 14 = .ok (.aload_n 0, 1) := by decide +kernel
theorem d_X11_distance_15 : decode cX11_distance 15 = .ok (.getfield 19, 3) := by decide +kernel
theorem d_X11_distance_18 : decode cX11_distance 18 = .ok (.iload_n 1, 1) := by decide +kernel
theorem d_X11_distance_19 : decode cX11_distance 19 = .ok (.iload_n 2, 1) := by decide +kernel
theorem d_X11_distance_20 : decode cX11_distance 20 = .ok (.invokevirtual 275, 3) := by decide +kernel
theorem d_X11_distance_23 : decode cX11_distance 23 = .ok (.istore_n 3, 1) := by decide +kernel
theorem d_X11_distance_24 : decode cX11_distance 24 = .ok (.iload_n 3, 1) := by decide +kernel
theorem d_X11_distance_25 : decode cX11_distance 25 = .ok (.iconst (-1), 1) := by decide +kernel
theorem d_X11_distance_26 : decode cX11_distance 26 = .ok (.if_icmp .ne 14, 3) := by decide +kernel
theorem d_X11_distance_29 : decode cX11_distance 29 = .ok (.new 150, 3) := by decide +kernel
theorem d_X11_distance_32 : decode cX11_distance 32 = .ok (.dup, 1) := by decide +kernel
theorem d_X11_distance_33 : decode cX11_distance 33 = .ok (.ldc_w 279, 3) := by decide +kernel
theorem d_X11_distance_36 : decode cX11_distance 36 = .ok (.invokespecial 154, 3) := by decide +kernel
theorem d_X11_distance_39 : decode cX11_distance 39 = .ok (.athrow, 1) := by decide +kernel
theorem d_X11_distance_40 : decode cX11_distance 40 = .ok (.iload_n 3, 1) := by decide +kernel
theorem d_X11_distance_41 : decode cX11_distance 41 = .ok (.ireturn, 1) := by decide +kernel
def f_X11_distance (F : Nat) (x1 : Int32) (x2 : Int32) (M : sm_M) : Option (sm_O × sm_M) := sm_bx (f_X11_needGraph F M) (fun M2 => sm_bx (f_X11_needVertex F x1 M2) (fun M5 => sm_bx (f_X11_needVertex F x2 M5) (fun M8 => (f_X4_walkLength F x1 x2 M8).bind fun q10 => if q10.1 = (-1 : Int32) then (some (.inr "java/util/NoSuchElementException", q10.2)) else (some (.inl (some (.int q10.1)), q10.2)))))
set_option maxRecDepth 100000 in
set_option maxHeartbeats 4000000 in
theorem j_X11_distance {sk : List sm_Sh} (hx : sm_ext skX sk) (F : Nat) : ∀ (x1 : Int32) (x2 : Int32) (M : sm_M) (r : sm_O × sm_M), f_X11_distance F x1 x2 M = some r → sm_J (md_X11_distance, 7, sk, r.1, r.2) 0 [some (.ref 0), some (.int x1), some (.int x2), none] [] M := by
  intro x1 x2  M r h
  unfold f_X11_distance at h
  refine sm_aload_n (q := 1) d_X11_distance_0 rfl rfl ?_
  rcases sm_bxs h with ⟨v3, M2, e1, h⟩ | ⟨v3, M2, e1, rfl⟩
  · obtain rfl := n_X11_needGraph e1
    refine sm_callV (q := 4) (d' := 6) [] [] d_X11_distance_1 rfl lk_X11_251 (hx sx_0) rfl rfl rfl (Nat.le_of_ble_eq_true rfl) (Nat.le_of_ble_eq_true rfl) (c_X11_needGraph hx F M (.inl none, M2) e1) (st9 := []) rfl ?_
    refine sm_aload_n (q := 5) d_X11_distance_4 rfl rfl ?_
    refine sm_iload_n (q := 6) d_X11_distance_5 rfl rfl ?_
    rcases sm_bxs h with ⟨v6, M5, e4, h⟩ | ⟨v6, M5, e4, rfl⟩
    · obtain rfl := n_X11_needVertex e4
      refine sm_callV (q := 9) (d' := 6) [] [.int x1] d_X11_distance_6 rfl lk_X11_269 (hx sx_0) rfl rfl rfl (Nat.le_of_ble_eq_true rfl) (Nat.le_of_ble_eq_true rfl) (c_X11_needVertex hx F x1 M2 (.inl none, M5) e4) (st9 := []) rfl ?_
      refine sm_aload_n (q := 10) d_X11_distance_9 rfl rfl ?_
      refine sm_iload_n (q := 11) d_X11_distance_10 rfl rfl ?_
      rcases sm_bxs h with ⟨v9, M8, e7, h⟩ | ⟨v9, M8, e7, rfl⟩
      · obtain rfl := n_X11_needVertex e7
        refine sm_callV (q := 14) (d' := 6) [] [.int x2] d_X11_distance_11 rfl lk_X11_269 (hx sx_0) rfl rfl rfl (Nat.le_of_ble_eq_true rfl) (Nat.le_of_ble_eq_true rfl) (c_X11_needVertex hx F x2 M5 (.inl none, M8) e7) (st9 := []) rfl ?_
        refine sm_aload_n (q := 15) d_X11_distance_14 rfl rfl ?_
        refine sm_getr (q := 18) d_X11_distance_15 rfl fl_X11_19 (hx sx_0) rfl ?_
        refine sm_iload_n (q := 19) d_X11_distance_18 rfl rfl ?_
        refine sm_iload_n (q := 20) d_X11_distance_19 rfl rfl ?_
        obtain ⟨q10, e10, h⟩ := sm_bd h
        refine sm_callV (q := 23) (d' := 2) [] [.int x1, .int x2] d_X11_distance_20 rfl lk_X11_275 (hx sx_5) rfl rfl rfl (Nat.le_of_ble_eq_true rfl) (Nat.le_of_ble_eq_true rfl) (c_X4_walkLength hx F x1 x2 M8 _ e10) (st9 := [.int q10.1]) rfl ?_
        refine sm_istore_n (q := 24) (lt := [some (.ref 0), some (.int x1), some (.int x2), some (.int q10.1)]) d_X11_distance_23 rfl (Nat.le_of_ble_eq_true rfl) rfl rfl ?_
        refine sm_iload_n (q := 25) d_X11_distance_24 rfl rfl ?_
        refine sm_iconst (q := 26) d_X11_distance_25 rfl ci_m1 ?_
        refine sm_icmp_ne (q := 29) (t := 40) d_X11_distance_26 rfl rfl (fun c11 => ?_) (fun c11 => ?_)
        · replace h := sm_if c11 h
          refine sm_iload_n (q := 41) d_X11_distance_40 rfl rfl ?_
          obtain rfl := Option.some.inj h
          exact sm_iret d_X11_distance_41 rfl rfl rfl rfl
        · replace h := sm_it c11 h
          obtain rfl := Option.some.inj h
          exact sm_throwNW rfl lt_X11_150_279_154 d_X11_distance_29 d_X11_distance_32 d_X11_distance_33 d_X11_distance_36 d_X11_distance_39 (Nat.le_of_ble_eq_true rfl) (Nat.le_of_ble_eq_true rfl) rfl rfl
      · exact sm_callVX (d' := 6) [] [.int x2] d_X11_distance_11 lk_X11_269 (hx sx_0) rfl rfl rfl (Nat.le_of_ble_eq_true rfl) (Nat.le_of_ble_eq_true rfl) (c_X11_needVertex hx F x2 M5 (.inr v9, M8) e7) rfl rfl
    · exact sm_callVX (d' := 6) [] [.int x1] d_X11_distance_6 lk_X11_269 (hx sx_0) rfl rfl rfl (Nat.le_of_ble_eq_true rfl) (Nat.le_of_ble_eq_true rfl) (c_X11_needVertex hx F x1 M2 (.inr v6, M5) e4) rfl rfl
  · exact sm_callVX (d' := 6) [] [] d_X11_distance_1 lk_X11_251 (hx sx_0) rfl rfl rfl (Nat.le_of_ble_eq_true rfl) (Nat.le_of_ble_eq_true rfl) (c_X11_needGraph hx F M (.inr v3, M2) e1) rfl rfl
theorem c_X11_distance {sk : List sm_Sh} (hx : sm_ext skX sk) (F : Nat) (x1 : Int32) (x2 : Int32) (M : sm_M) (r : sm_O × sm_M) (h : f_X11_distance F x1 x2 M = some r) : sm_Ct yX11_distance md_X11_distance 7 sk [.ref 0, .int x1, .int x2] M (r.1) r.2 := sm_enter 1 pn_X11 rfl (Nat.le_of_ble_eq_true rfl) rfl (j_X11_distance hx F x1 x2 M r h)
/-! UniversalCycles.componentOf(I)I -/
theorem d_X11_componentOf_0 : decode cX11_componentOf 0 = .ok (.aload_n 0, 1) := by decide +kernel
theorem d_X11_componentOf_1 : decode cX11_componentOf 1 = .ok (.invokevirtual 251, 3) := by decide +kernel
theorem d_X11_componentOf_4 : decode cX11_componentOf 4 = .ok (.aload_n 0, 1) := by decide +kernel
theorem d_X11_componentOf_5 : decode cX11_componentOf 5 = .ok (.iload_n 1, 1) := by decide +kernel
theorem d_X11_componentOf_6 : decode cX11_componentOf 6 = .ok (.invokevirtual 269, 3) := by decide +kernel
theorem d_X11_componentOf_9 : decode cX11_componentOf 9 = .ok (.aload_n 0, 1) := by decide +kernel
theorem d_X11_componentOf_10 : decode cX11_componentOf 10 = .ok (.getfield 19, 3) := by decide +kernel
theorem d_X11_componentOf_13 : decode cX11_componentOf 13 = .ok (.iload_n 1, 1) := by decide +kernel
theorem d_X11_componentOf_14 : decode cX11_componentOf 14 = .ok (.invokevirtual 281, 3) := by decide +kernel
theorem d_X11_componentOf_17 : decode cX11_componentOf 17 = .ok (.ireturn, 1) := by decide +kernel
def f_X11_componentOf (F : Nat) (x1 : Int32) (M : sm_M) : Option (sm_O × sm_M) := sm_bx (f_X11_needGraph F M) (fun M2 => sm_bx (f_X11_needVertex F x1 M2) (fun M5 => (f_X4_lowestOfComponent F x1 M5).bind fun q7 => some (.inl (some (.int q7.1)), q7.2)))
set_option maxRecDepth 100000 in
set_option maxHeartbeats 4000000 in
theorem j_X11_componentOf {sk : List sm_Sh} (hx : sm_ext skX sk) (F : Nat) : ∀ (x1 : Int32) (M : sm_M) (r : sm_O × sm_M), f_X11_componentOf F x1 M = some r → sm_J (md_X11_componentOf, 7, sk, r.1, r.2) 0 [some (.ref 0), some (.int x1)] [] M := by
  intro x1  M r h
  unfold f_X11_componentOf at h
  refine sm_aload_n (q := 1) d_X11_componentOf_0 rfl rfl ?_
  rcases sm_bxs h with ⟨v3, M2, e1, h⟩ | ⟨v3, M2, e1, rfl⟩
  · obtain rfl := n_X11_needGraph e1
    refine sm_callV (q := 4) (d' := 6) [] [] d_X11_componentOf_1 rfl lk_X11_251 (hx sx_0) rfl rfl rfl (Nat.le_of_ble_eq_true rfl) (Nat.le_of_ble_eq_true rfl) (c_X11_needGraph hx F M (.inl none, M2) e1) (st9 := []) rfl ?_
    refine sm_aload_n (q := 5) d_X11_componentOf_4 rfl rfl ?_
    refine sm_iload_n (q := 6) d_X11_componentOf_5 rfl rfl ?_
    rcases sm_bxs h with ⟨v6, M5, e4, h⟩ | ⟨v6, M5, e4, rfl⟩
    · obtain rfl := n_X11_needVertex e4
      refine sm_callV (q := 9) (d' := 6) [] [.int x1] d_X11_componentOf_6 rfl lk_X11_269 (hx sx_0) rfl rfl rfl (Nat.le_of_ble_eq_true rfl) (Nat.le_of_ble_eq_true rfl) (c_X11_needVertex hx F x1 M2 (.inl none, M5) e4) (st9 := []) rfl ?_
      refine sm_aload_n (q := 10) d_X11_componentOf_9 rfl rfl ?_
      refine sm_getr (q := 13) d_X11_componentOf_10 rfl fl_X11_19 (hx sx_0) rfl ?_
      refine sm_iload_n (q := 14) d_X11_componentOf_13 rfl rfl ?_
      obtain ⟨q7, e7, h⟩ := sm_bd h
      refine sm_callV (q := 17) (d' := 2) [] [.int x1] d_X11_componentOf_14 rfl lk_X11_281 (hx sx_5) rfl rfl rfl (Nat.le_of_ble_eq_true rfl) (Nat.le_of_ble_eq_true rfl) (c_X4_lowestOfComponent hx F x1 M5 _ e7) (st9 := [.int q7.1]) rfl ?_
      obtain rfl := Option.some.inj h
      exact sm_iret d_X11_componentOf_17 rfl rfl rfl rfl
    · exact sm_callVX (d' := 6) [] [.int x1] d_X11_componentOf_6 lk_X11_269 (hx sx_0) rfl rfl rfl (Nat.le_of_ble_eq_true rfl) (Nat.le_of_ble_eq_true rfl) (c_X11_needVertex hx F x1 M2 (.inr v6, M5) e4) rfl rfl
  · exact sm_callVX (d' := 6) [] [] d_X11_componentOf_1 lk_X11_251 (hx sx_0) rfl rfl rfl (Nat.le_of_ble_eq_true rfl) (Nat.le_of_ble_eq_true rfl) (c_X11_needGraph hx F M (.inr v3, M2) e1) rfl rfl
theorem c_X11_componentOf {sk : List sm_Sh} (hx : sm_ext skX sk) (F : Nat) (x1 : Int32) (M : sm_M) (r : sm_O × sm_M) (h : f_X11_componentOf F x1 M = some r) : sm_Ct yX11_componentOf md_X11_componentOf 7 sk [.ref 0, .int x1] M (r.1) r.2 := sm_enter 0 pn_X11 rfl (Nat.le_of_ble_eq_true rfl) rfl (j_X11_componentOf hx F x1 M r h)
/-! UniversalCycles.needCircuit()V -/
theorem d_X11_needCircuit_0 : decode cX11_needCircuit 0 = .ok (.aload_n 0, 1) := by decide +kernel
theorem d_X11_needCircuit_1 : decode cX11_needCircuit 1 = .ok (.getfield 19, 3) := by decide +kernel
theorem d_X11_needCircuit_4 : decode cX11_needCircuit 4 = .ok (.getfield 356, 3) := by decide +kernel
theorem d_X11_needCircuit_7 : decode cX11_needCircuit 7 = .ok (.ifCond .ne 14, 3) := by decide +kernel
theorem d_X11_needCircuit_10 : decode cX11_needCircuit 10 = .ok (.new 150, 3) := by decide +kernel
theorem d_X11_needCircuit_13 : decode cX11_needCircuit 13 = .ok (.dup, 1) := by decide +kernel
theorem d_X11_needCircuit_14 : decode cX11_needCircuit 14 = .ok (.ldc_w 359, 3) := by decide +kernel
theorem d_X11_needCircuit_17 : decode cX11_needCircuit 17 = .ok (.invokespecial 154, 3) := by decide +kernel
theorem d_X11_needCircuit_20 : decode cX11_needCircuit 20 = .ok (.athrow, 1) := by decide +kernel
theorem d_X11_needCircuit_21 : decode cX11_needCircuit 21 = .ok (.return_, 1) := by decide +kernel
def f_X11_needCircuit (F : Nat) (M : sm_M) : Option (sm_O × sm_M) := if (M.1 5 11) = 0 then (some (.inr "java/util/NoSuchElementException", M)) else (some (.inl none, M))
set_option maxRecDepth 100000 in
set_option maxHeartbeats 4000000 in
theorem j_X11_needCircuit {sk : List sm_Sh} (hx : sm_ext skX sk) (F : Nat) : ∀ (M : sm_M) (r : sm_O × sm_M), f_X11_needCircuit F M = some r → sm_J (md_X11_needCircuit, 6, sk, r.1, r.2) 0 [some (.ref 0)] [] M := by
  intro   M r h
  unfold f_X11_needCircuit at h
  refine sm_aload_n (q := 1) d_X11_needCircuit_0 rfl rfl ?_
  refine sm_getr (q := 4) d_X11_needCircuit_1 rfl fl_X11_19 (hx sx_0) rfl ?_
  refine sm_geti (q := 7) d_X11_needCircuit_4 rfl fl_X11_356 (hx sx_5) rfl ?_
  refine sm_if_ne (q := 10) (t := 21) d_X11_needCircuit_7 rfl rfl (fun c1 => ?_) (fun c1 => ?_)
  · replace h := sm_if c1 h
    obtain rfl := Option.some.inj h
    exact sm_vret d_X11_needCircuit_21 rfl rfl rfl
  · replace h := sm_it c1 h
    obtain rfl := Option.some.inj h
    exact sm_throwNW rfl lt_X11_150_359_154 d_X11_needCircuit_10 d_X11_needCircuit_13 d_X11_needCircuit_14 d_X11_needCircuit_17 d_X11_needCircuit_20 (Nat.le_of_ble_eq_true rfl) (Nat.le_of_ble_eq_true rfl) rfl rfl
theorem n_X11_needCircuit {F : Nat} {M M1 : sm_M} {v : Option Value} (h : f_X11_needCircuit F M = some (.inl v, M1)) : v = none := by
  exact (show sm_nv (f_X11_needCircuit F  M) from by unfold f_X11_needCircuit; exact sm_nv_if sm_nv_thr sm_nv_ret) _ _ h
theorem c_X11_needCircuit {sk : List sm_Sh} (hx : sm_ext skX sk) (F : Nat) (M : sm_M) (r : sm_O × sm_M) (h : f_X11_needCircuit F M = some r) : sm_Ct yX11_needCircuit md_X11_needCircuit 6 sk [.ref 0] M (r.1) r.2 := sm_enter 0 pn_X11 rfl (Nat.le_of_ble_eq_true rfl) rfl (j_X11_needCircuit hx F M r h)
/-! UniversalCycles.circuitCount()J -/
theorem d_X11_circuitCount_0 : decode cX11_circuitCount 0 = .ok (.aload_n 0, 1) := by decide +kernel
theorem d_X11_circuitCount_1 : decode cX11_circuitCount 1 = .ok (.invokevirtual 251, 3) := by decide +kernel
theorem d_X11_circuitCount_4 : decode cX11_circuitCount 4 = .ok (.aload_n 0, 1) := by decide +kernel
theorem d_X11_circuitCount_5 : decode cX11_circuitCount 5 = .ok (.getfield 19, 3) := by decide +kernel
theorem d_X11_circuitCount_8 : decode cX11_circuitCount 8 = .ok (.getfield 254, 3) := by decide +kernel
theorem d_X11_circuitCount_11 : decode cX11_circuitCount 11 = .ok (.getfield 101, 3) := by decide +kernel
theorem d_X11_circuitCount_14 : decode cX11_circuitCount 14 = .ok (.bipush 8, 2) := by decide +kernel
theorem d_X11_circuitCount_16 : decode cX11_circuitCount 16 = .ok (.if_icmp .le 14, 3) := by decide +kernel
theorem d_X11_circuitCount_19 : decode cX11_circuitCount 19 = .ok (.new 284, 3) := by decide +kernel
theorem d_X11_circuitCount_22 : decode cX11_circuitCount 22 = .ok (.dup, 1) := by decide +kernel
theorem d_X11_circuitCount_23 : decode cX11_circuitCount 23 = .ok (.ldc_w 286, 3) := by decide +kernel
theorem d_X11_circuitCount_26 : decode cX11_circuitCount 26 = .ok (.invokespecial 288, 3) := by decide +kernel
theorem d_X11_circuitCount_29 : decode cX11_circuitCount 29 = .ok (.athrow, 1) := by decide +kernel
theorem d_X11_circuitCount_30 : decode cX11_circuitCount 30 = .ok (.aload_n 0, 1) := by decide +kernel
theorem d_X11_circuitCount_31 : decode cX11_circuitCount 31 = .ok (.invokevirtual 289, 3) := by decide +kernel
theorem d_X11_circuitCount_34 : decode cX11_circuitCount 34 = .ok (.aload_n 0, 1) := by decide +kernel
theorem d_X11_circuitCount_35 : decode cX11_circuitCount 35 = .ok (.getfield 68, 3) := by decide +kernel
theorem d_X11_circuitCount_38 : decode cX11_circuitCount 38 = .ok (.aload_n 0, 1) := by decide +kernel
theorem d_X11_circuitCount_39 : decode cX11_circuitCount 39 = .ok (.getfield 19, 3) := by decide +kernel
theorem d_X11_circuitCount_42 : decode cX11_circuitCount 42 = .ok (.invokevirtual 292, 3) := by decide +kernel
theorem d_X11_circuitCount_45 : decode cX11_circuitCount 45 = .ok (.lstore_n 1, 1) := by decide +kernel
theorem d_X11_circuitCount_46 : decode cX11_circuitCount 46 = .ok (.lload_n 1, 1) := by decide +kernel
theorem d_X11_circuitCount_47 : decode cX11_circuitCount 47 = .ok (.ldc2_w 296, 3) := by decide +kernel
theorem d_X11_circuitCount_50 : decode cX11_circuitCount 50 = .ok (.lcmp, 1) := by decide +kernel
theorem d_X11_circuitCount_51 : decode cX11_circuitCount 51 = .ok (.ifCond .ne 14, 3) := by decide +kernel
theorem d_X11_circuitCount_54 : decode cX11_circuitCount 54 = .ok (.new 298, 3) := by decide +kernel
theorem d_X11_circuitCount_57 : decode cX11_circuitCount 57 = .ok (.dup, 1) := by decide +kernel
theorem d_X11_circuitCount_58 : decode cX11_circuitCount 58 = .ok (.ldc_w 300, 3) := by decide +kernel
theorem d_X11_circuitCount_61 : decode cX11_circuitCount 61 = .ok (.invokespecial 302, 3) := by decide +kernel
theorem d_X11_circuitCount_64 : decode cX11_circuitCount 64 = .ok (.athrow, 1) := by decide +kernel
theorem d_X11_circuitCount_65 : decode cX11_circuitCount 65 = .ok (.lload_n 1, 1) := by decide +kernel
theorem d_X11_circuitCount_66 : decode cX11_circuitCount 66 = .ok (.lreturn, 1) := by decide +kernel
def f_X11_circuitCount (F : Nat) (M : sm_M) : Option (sm_O × sm_M) := sm_bx (f_X11_needGraph F M) (fun M2 => if (M2.1 6 2) ≤ (8 : Int32) then (sm_bx (f_X11_needCircuit F M2) (fun M6 => (f_X0_count F M6).bind fun q8 => if (lg_cmp q8.1 (-1 : Int64)) = 0 then (some (.inr "java/lang/ArithmeticException", q8.2)) else (some (.inl (some (.long q8.1)), q8.2)))) else (some (.inr "java/lang/UnsupportedOperationException", M2)))
set_option maxRecDepth 100000 in
set_option maxHeartbeats 4000000 in
theorem j_X11_circuitCount {sk : List sm_Sh} (hx : sm_ext skX sk) (F : Nat) : ∀ (M : sm_M) (r : sm_O × sm_M), f_X11_circuitCount F M = some r → sm_J (md_X11_circuitCount, 7, sk, r.1, r.2) 0 [some (.ref 0), none, none] [] M := by
  intro   M r h
  unfold f_X11_circuitCount at h
  refine sm_aload_n (q := 1) d_X11_circuitCount_0 rfl rfl ?_
  rcases sm_bxs h with ⟨v3, M2, e1, h⟩ | ⟨v3, M2, e1, rfl⟩
  · obtain rfl := n_X11_needGraph e1
    refine sm_callV (q := 4) (d' := 6) [] [] d_X11_circuitCount_1 rfl lk_X11_251 (hx sx_0) rfl rfl rfl (Nat.le_of_ble_eq_true rfl) (Nat.le_of_ble_eq_true rfl) (c_X11_needGraph hx F M (.inl none, M2) e1) (st9 := []) rfl ?_
    refine sm_aload_n (q := 5) d_X11_circuitCount_4 rfl rfl ?_
    refine sm_getr (q := 8) d_X11_circuitCount_5 rfl fl_X11_19 (hx sx_0) rfl ?_
    refine sm_getr (q := 11) d_X11_circuitCount_8 rfl fl_X11_254 (hx sx_5) rfl ?_
    refine sm_geti (q := 14) d_X11_circuitCount_11 rfl fl_X11_101 (hx sx_6) rfl ?_
    refine sm_bipush (q := 16) d_X11_circuitCount_14 rfl cb_8 ?_
    refine sm_icmp_le (q := 19) (t := 30) d_X11_circuitCount_16 rfl rfl (fun c4 => ?_) (fun c4 => ?_)
    · replace h := sm_it c4 h
      refine sm_aload_n (q := 31) d_X11_circuitCount_30 rfl rfl ?_
      rcases sm_bxs h with ⟨v7, M6, e5, h⟩ | ⟨v7, M6, e5, rfl⟩
      · obtain rfl := n_X11_needCircuit e5
        refine sm_callV (q := 34) (d' := 6) [] [] d_X11_circuitCount_31 rfl lk_X11_289 (hx sx_0) rfl rfl rfl (Nat.le_of_ble_eq_true rfl) (Nat.le_of_ble_eq_true rfl) (c_X11_needCircuit hx F M2 (.inl none, M6) e5) (st9 := []) rfl ?_
        refine sm_aload_n (q := 35) d_X11_circuitCount_34 rfl rfl ?_
        refine sm_getr (q := 38) d_X11_circuitCount_35 rfl fl_X11_68 (hx sx_0) rfl ?_
        refine sm_aload_n (q := 39) d_X11_circuitCount_38 rfl rfl ?_
        refine sm_getr (q := 42) d_X11_circuitCount_39 rfl fl_X11_19 (hx sx_0) rfl ?_
        obtain ⟨q8, e8, h⟩ := sm_bd h
        refine sm_callV (q := 45) (d' := 2) [] [.ref 5] d_X11_circuitCount_42 rfl lk_X11_292 (hx sx_67) rfl rfl rfl (Nat.le_of_ble_eq_true rfl) (Nat.le_of_ble_eq_true rfl) (c_X0_count hx F M6 _ e8) (st9 := [.long q8.1]) rfl ?_
        refine sm_lstore_n (q := 46) (lt := [some (.ref 0), some (.long q8.1), none]) d_X11_circuitCount_45 rfl (Nat.le_of_ble_eq_true rfl) rfl rfl ?_
        refine sm_lload_n (q := 47) d_X11_circuitCount_46 rfl rfl ?_
        refine sm_ldc2 (q := 50) (v := (-1)) d_X11_circuitCount_47 rfl cn_X11_296 ?_
        refine sm_lcmp (q := 51) d_X11_circuitCount_50 rfl ?_
        refine sm_if_ne (q := 54) (t := 65) d_X11_circuitCount_51 rfl rfl (fun c9 => ?_) (fun c9 => ?_)
        · replace h := sm_if c9 h
          refine sm_lload_n (q := 66) d_X11_circuitCount_65 rfl rfl ?_
          obtain rfl := Option.some.inj h
          exact sm_lret d_X11_circuitCount_66 rfl rfl rfl
        · replace h := sm_it c9 h
          obtain rfl := Option.some.inj h
          exact sm_throwW lt_X11_298_300_302 d_X11_circuitCount_54 d_X11_circuitCount_57 d_X11_circuitCount_58 d_X11_circuitCount_61 d_X11_circuitCount_64 (Nat.le_of_ble_eq_true rfl) (Nat.le_of_ble_eq_true rfl) rfl rfl
      · exact sm_callVX (d' := 6) [] [] d_X11_circuitCount_31 lk_X11_289 (hx sx_0) rfl rfl rfl (Nat.le_of_ble_eq_true rfl) (Nat.le_of_ble_eq_true rfl) (c_X11_needCircuit hx F M2 (.inr v7, M6) e5) rfl rfl
    · replace h := sm_if c4 h
      obtain rfl := Option.some.inj h
      exact sm_throwW lt_X11_284_286_288 d_X11_circuitCount_19 d_X11_circuitCount_22 d_X11_circuitCount_23 d_X11_circuitCount_26 d_X11_circuitCount_29 (Nat.le_of_ble_eq_true rfl) (Nat.le_of_ble_eq_true rfl) rfl rfl
  · exact sm_callVX (d' := 6) [] [] d_X11_circuitCount_1 lk_X11_251 (hx sx_0) rfl rfl rfl (Nat.le_of_ble_eq_true rfl) (Nat.le_of_ble_eq_true rfl) (c_X11_needGraph hx F M (.inr v3, M2) e1) rfl rfl
theorem c_X11_circuitCount {sk : List sm_Sh} (hx : sm_ext skX sk) (F : Nat) (M : sm_M) (r : sm_O × sm_M) (h : f_X11_circuitCount F M = some r) : sm_Ct yX11_circuitCount md_X11_circuitCount 7 sk [.ref 0] M (r.1) r.2 := sm_enter 2 pn_X11 rfl (Nat.le_of_ble_eq_true rfl) rfl (j_X11_circuitCount hx F M r h)
/-! UniversalCycles.circuitEdge(I)I -/
theorem d_X11_circuitEdge_0 : decode cX11_circuitEdge 0 = .ok (.aload_n 0, 1) := by decide +kernel
theorem d_X11_circuitEdge_1 : decode cX11_circuitEdge 1 = .ok (.invokevirtual 251, 3) := by decide +kernel
theorem d_X11_circuitEdge_4 : decode cX11_circuitEdge 4 = .ok (.aload_n 0, 1) := by decide +kernel
theorem d_X11_circuitEdge_5 : decode cX11_circuitEdge 5 = .ok (.invokevirtual 289, 3) := by decide +kernel
theorem d_X11_circuitEdge_8 : decode cX11_circuitEdge 8 = .ok (.iload_n 1, 1) := by decide +kernel
theorem d_X11_circuitEdge_9 : decode cX11_circuitEdge 9 = .ok (.ifCond .lt 14, 3) := by decide +kernel
theorem d_X11_circuitEdge_12 : decode cX11_circuitEdge 12 = .ok (.iload_n 1, 1) := by decide +kernel
theorem d_X11_circuitEdge_13 : decode cX11_circuitEdge 13 = .ok (.aload_n 0, 1) := by decide +kernel
theorem d_X11_circuitEdge_14 : decode cX11_circuitEdge 14 = .ok (.getfield 19, 3) := by decide +kernel
theorem d_X11_circuitEdge_17 : decode cX11_circuitEdge 17 = .ok (.getfield 303, 3) := by decide +kernel
theorem d_X11_circuitEdge_20 : decode cX11_circuitEdge 20 = .ok (.if_icmp .lt 13, 3) := by decide +kernel
theorem d_X11_circuitEdge_23 : decode cX11_circuitEdge 23 = .ok (.new 114, 3) := by decide +kernel
theorem d_X11_circuitEdge_26 : decode cX11_circuitEdge 26 = .ok (.dup, 1) := by decide +kernel
theorem d_X11_circuitEdge_27 : decode cX11_circuitEdge 27 = .ok (.ldc 116, 2) := by decide +kernel
theorem d_X11_circuitEdge_29 : decode cX11_circuitEdge 29 = .ok (.invokespecial 118, 3) := by decide +kernel
theorem d_X11_circuitEdge_32 : decode cX11_circuitEdge 32 = .ok (.athrow, 1) := by decide +kernel
theorem d_X11_circuitEdge_33 : decode cX11_circuitEdge 33 = .ok (.aload_n 0, 1) := by decide +kernel
theorem d_X11_circuitEdge_34 : decode cX11_circuitEdge 34 = .ok (.getfield 19, 3) := by decide +kernel
theorem d_X11_circuitEdge_37 : decode cX11_circuitEdge 37 = .ok (.getfield 306, 3) := by decide +kernel
theorem d_X11_circuitEdge_40 : decode cX11_circuitEdge 40 = .ok (.iload_n 1, 1) := by decide +kernel
theorem d_X11_circuitEdge_41 : decode cX11_circuitEdge 41 = .ok (.iaload, 1) := by decide +kernel
theorem d_X11_circuitEdge_42 : decode cX11_circuitEdge 42 = .ok (.ireturn, 1) := by decide +kernel
def f_X11_circuitEdge_23 (F : Nat) (M : sm_M) : Option (sm_O × sm_M) := some (.inr "java/lang/IndexOutOfBoundsException", M)
set_option maxRecDepth 100000 in
set_option maxHeartbeats 4000000 in
theorem j_X11_circuitEdge_23 {sk : List sm_Sh} (hx : sm_ext skX sk) (F : Nat) : ∀ (M : sm_M) (r : sm_O × sm_M), f_X11_circuitEdge_23 F M = some r → sm_J (md_X11_circuitEdge, 7, sk, r.1, r.2) 23 [none, none] [] M := by
  intro   M r h
  unfold f_X11_circuitEdge_23 at h
  obtain rfl := Option.some.inj h
  exact sm_throw lt_X11_114_116_118 d_X11_circuitEdge_23 d_X11_circuitEdge_26 d_X11_circuitEdge_27 d_X11_circuitEdge_29 d_X11_circuitEdge_32 (Nat.le_of_ble_eq_true rfl) (Nat.le_of_ble_eq_true rfl) rfl rfl
def f_X11_circuitEdge (F : Nat) (x1 : Int32) (M : sm_M) : Option (sm_O × sm_M) := sm_bx (f_X11_needGraph F M) (fun M2 => sm_bx (f_X11_needCircuit F M2) (fun M5 => if x1 < 0 then (f_X11_circuitEdge_23 F M5) else (if x1 < (M5.1 5 10) then (sm_g (sm_ib x1 200) (some (.inl (some (.int (M5.1 17 x1.toNatClampNeg))), M5))) else (f_X11_circuitEdge_23 F M5))))
set_option maxRecDepth 100000 in
set_option maxHeartbeats 4000000 in
theorem j_X11_circuitEdge {sk : List sm_Sh} (hx : sm_ext skX sk) (F : Nat) : ∀ (x1 : Int32) (M : sm_M) (r : sm_O × sm_M), f_X11_circuitEdge F x1 M = some r → sm_J (md_X11_circuitEdge, 7, sk, r.1, r.2) 0 [some (.ref 0), some (.int x1)] [] M := by
  intro x1  M r h
  unfold f_X11_circuitEdge at h
  refine sm_aload_n (q := 1) d_X11_circuitEdge_0 rfl rfl ?_
  rcases sm_bxs h with ⟨v3, M2, e1, h⟩ | ⟨v3, M2, e1, rfl⟩
  · obtain rfl := n_X11_needGraph e1
    refine sm_callV (q := 4) (d' := 6) [] [] d_X11_circuitEdge_1 rfl lk_X11_251 (hx sx_0) rfl rfl rfl (Nat.le_of_ble_eq_true rfl) (Nat.le_of_ble_eq_true rfl) (c_X11_needGraph hx F M (.inl none, M2) e1) (st9 := []) rfl ?_
    refine sm_aload_n (q := 5) d_X11_circuitEdge_4 rfl rfl ?_
    rcases sm_bxs h with ⟨v6, M5, e4, h⟩ | ⟨v6, M5, e4, rfl⟩
    · obtain rfl := n_X11_needCircuit e4
      refine sm_callV (q := 8) (d' := 6) [] [] d_X11_circuitEdge_5 rfl lk_X11_289 (hx sx_0) rfl rfl rfl (Nat.le_of_ble_eq_true rfl) (Nat.le_of_ble_eq_true rfl) (c_X11_needCircuit hx F M2 (.inl none, M5) e4) (st9 := []) rfl ?_
      refine sm_iload_n (q := 9) d_X11_circuitEdge_8 rfl rfl ?_
      refine sm_if_lt (q := 12) (t := 23) d_X11_circuitEdge_9 rfl rfl (fun c7 => ?_) (fun c7 => ?_)
      · replace h := sm_it c7 h
        refine sm_fg [0, 1] ?_
        exact j_X11_circuitEdge_23 hx F M5 _ h
      · replace h := sm_if c7 h
        refine sm_iload_n (q := 13) d_X11_circuitEdge_12 rfl rfl ?_
        refine sm_aload_n (q := 14) d_X11_circuitEdge_13 rfl rfl ?_
        refine sm_getr (q := 17) d_X11_circuitEdge_14 rfl fl_X11_19 (hx sx_0) rfl ?_
        refine sm_geti (q := 20) d_X11_circuitEdge_17 rfl fl_X11_303 (hx sx_5) rfl ?_
        refine sm_icmp_lt (q := 23) (t := 33) d_X11_circuitEdge_20 rfl rfl (fun c8 => ?_) (fun c8 => ?_)
        · replace h := sm_it c8 h
          refine sm_aload_n (q := 34) d_X11_circuitEdge_33 rfl rfl ?_
          refine sm_getr (q := 37) d_X11_circuitEdge_34 rfl fl_X11_19 (hx sx_0) rfl ?_
          refine sm_getr (q := 40) d_X11_circuitEdge_37 rfl fl_X11_306 (hx sx_5) rfl ?_
          refine sm_iload_n (q := 41) d_X11_circuitEdge_40 rfl rfl ?_
          obtain ⟨g9, h⟩ := sm_gt h
          refine sm_iaload (q := 42) d_X11_circuitEdge_41 rfl (hx sx_17) (sm_ib_of g9) ?_
          obtain rfl := Option.some.inj h
          exact sm_iret d_X11_circuitEdge_42 rfl rfl rfl rfl
        · replace h := sm_if c8 h
          refine sm_fg [0, 1] ?_
          exact j_X11_circuitEdge_23 hx F M5 _ h
    · exact sm_callVX (d' := 6) [] [] d_X11_circuitEdge_5 lk_X11_289 (hx sx_0) rfl rfl rfl (Nat.le_of_ble_eq_true rfl) (Nat.le_of_ble_eq_true rfl) (c_X11_needCircuit hx F M2 (.inr v6, M5) e4) rfl rfl
  · exact sm_callVX (d' := 6) [] [] d_X11_circuitEdge_1 lk_X11_251 (hx sx_0) rfl rfl rfl (Nat.le_of_ble_eq_true rfl) (Nat.le_of_ble_eq_true rfl) (c_X11_needGraph hx F M (.inr v3, M2) e1) rfl rfl
theorem c_X11_circuitEdge {sk : List sm_Sh} (hx : sm_ext skX sk) (F : Nat) (x1 : Int32) (M : sm_M) (r : sm_O × sm_M) (h : f_X11_circuitEdge F x1 M = some r) : sm_Ct yX11_circuitEdge md_X11_circuitEdge 7 sk [.ref 0, .int x1] M (r.1) r.2 := sm_enter 0 pn_X11 rfl (Nat.le_of_ble_eq_true rfl) rfl (j_X11_circuitEdge hx F x1 M r h)
/-! UniversalCycles.useCircuit()I -/
theorem d_X11_useCircuit_0 : decode cX11_useCircuit 0 = .ok (.aload_n 0, 1) := by decide +kernel
theorem d_X11_useCircuit_1 : decode cX11_useCircuit 1 = .ok (.invokevirtual 251, 3) := by decide +kernel
theorem d_X11_useCircuit_4 : decode cX11_useCircuit 4 = .ok (.aload_n 0, 1) := by decide +kernel
theorem d_X11_useCircuit_5 : decode cX11_useCircuit 5 = .ok (.invokevirtual 289, 3) := by decide +kernel
theorem d_X11_useCircuit_8 : decode cX11_useCircuit 8 = .ok (.aload_n 0, 1) := by decide +kernel
theorem d_X11_useCircuit_9 : decode cX11_useCircuit 9 = .ok (.getfield 61, 3) := by decide +kernel
theorem d_X11_useCircuit_12 : decode cX11_useCircuit 12 = .ok (.aload_n 0, 1) := by decide +kernel
theorem d_X11_useCircuit_13 : decode cX11_useCircuit 13 = .ok (.getfield 10, 3) := by decide +kernel
theorem d_X11_useCircuit_16 : decode cX11_useCircuit 16 = .ok (.aload_n 0, 1) := by decide +kernel
theorem d_X11_useCircuit_17 : decode cX11_useCircuit 17 = .ok (.getfield 19, 3) := by decide +kernel
theorem d_X11_useCircuit_20 : decode cX11_useCircuit 20 = .ok (.invokevirtual 309, 3) := by decide +kernel
theorem d_X11_useCircuit_23 : decode cX11_useCircuit 23 = .ok (.ifCond .ne 14, 3) := by decide +kernel
theorem d_X11_useCircuit_26 : decode cX11_useCircuit 26 = .ok (.new 150, 3) := by decide +kernel
theorem d_X11_useCircuit_29 : decode cX11_useCircuit 29 = .ok (.dup, 1) := by decide +kernel
theorem d_X11_useCircuit_30 : decode cX11_useCircuit 30 = .ok (.ldc_w 313, 3) := by decide +kernel
theorem d_X11_useCircuit_33 : decode cX11_useCircuit 33 = .ok (.invokespecial 154, 3) := by decide +kernel
theorem d_X11_useCircuit_36 : decode cX11_useCircuit 36 = .ok (.athrow, 1) := by decide +kernel
theorem d_X11_useCircuit_37 : decode cX11_useCircuit 37 = .ok (.aload_n 0, 1) := by decide +kernel
theorem d_X11_useCircuit_38 : decode cX11_useCircuit 38 = .ok (.getfield 33, 3) := by decide +kernel
theorem d_X11_useCircuit_41 : decode cX11_useCircuit 41 = .ok (.aload_n 0, 1) := by decide +kernel
theorem d_X11_useCircuit_42 : decode cX11_useCircuit 42 = .ok (.getfield 26, 3) := by decide +kernel
theorem d_X11_useCircuit_45 : decode cX11_useCircuit 45 = .ok (.invokevirtual 136, 3) := by decide +kernel
theorem d_X11_useCircuit_48 : decode cX11_useCircuit 48 = .ok (.pop, 1) := by decide +kernel
theorem d_X11_useCircuit_49 : decode cX11_useCircuit 49 = .ok (.aload_n 0, 1) := by decide +kernel
theorem d_X11_useCircuit_50 : decode cX11_useCircuit 50 = .ok (.getfield 26, 3) := by decide +kernel
theorem d_X11_useCircuit_53 : decode cX11_useCircuit 53 = .ok (.aload_n 0, 1) := by decide +kernel
theorem d_X11_useCircuit_54 : decode cX11_useCircuit 54 = .ok (.getfield 61, 3) := by decide +kernel
theorem d_X11_useCircuit_57 : decode cX11_useCircuit 57 = .ok (.getfield 315, 3) := by decide +kernel
theorem d_X11_useCircuit_60 : decode cX11_useCircuit 60 = .ok (.invokevirtual 248, 3) := by decide +kernel
theorem d_X11_useCircuit_63 : decode cX11_useCircuit 63 = .ok (.aload_n 0, 1) := by decide +kernel
theorem d_X11_useCircuit_64 : decode cX11_useCircuit 64 = .ok (.getfield 26, 3) := by decide +kernel
theorem d_X11_useCircuit_67 : decode cX11_useCircuit 67 = .ok (.invokevirtual 215, 3) := by decide +kernel
theorem d_X11_useCircuit_70 : decode cX11_useCircuit 70 = .ok (.invokestatic 218, 3) := by decide +kernel
theorem d_X11_useCircuit_73 : decode cX11_useCircuit 73 = .ok (.ireturn, 1) := by decide +kernel
def f_X11_useCircuit (F : Nat) (M : sm_M) : Option (sm_O × sm_M) := sm_bx (f_X11_needGraph F M) (fun M2 => sm_bx (f_X11_needCircuit F M2) (fun M5 => (f_X9_unfold F M5).bind fun q7 => if q7.1 = 0 then (some (.inr "java/util/NoSuchElementException", q7.2)) else ((f_X6_remember F 24 q7.2).bind fun q9 => (f_X7_copyFrom F 24 65 q9.2).bind fun q10 => (f_X7_symbolMask F 24 q10).bind fun q11 => (f_J6_bitCount_0f7a4 F q11 q10).bind fun q12 => some (.inl (some (.int q12)), q10))))
set_option maxRecDepth 100000 in
set_option maxHeartbeats 4000000 in
theorem j_X11_useCircuit {sk : List sm_Sh} (hx : sm_ext skX sk) (F : Nat) : ∀ (M : sm_M) (r : sm_O × sm_M), f_X11_useCircuit F M = some r → sm_J (md_X11_useCircuit, 7, sk, r.1, r.2) 0 [some (.ref 0)] [] M := by
  intro   M r h
  unfold f_X11_useCircuit at h
  refine sm_aload_n (q := 1) d_X11_useCircuit_0 rfl rfl ?_
  rcases sm_bxs h with ⟨v3, M2, e1, h⟩ | ⟨v3, M2, e1, rfl⟩
  · obtain rfl := n_X11_needGraph e1
    refine sm_callV (q := 4) (d' := 6) [] [] d_X11_useCircuit_1 rfl lk_X11_251 (hx sx_0) rfl rfl rfl (Nat.le_of_ble_eq_true rfl) (Nat.le_of_ble_eq_true rfl) (c_X11_needGraph hx F M (.inl none, M2) e1) (st9 := []) rfl ?_
    refine sm_aload_n (q := 5) d_X11_useCircuit_4 rfl rfl ?_
    rcases sm_bxs h with ⟨v6, M5, e4, h⟩ | ⟨v6, M5, e4, rfl⟩
    · obtain rfl := n_X11_needCircuit e4
      refine sm_callV (q := 8) (d' := 6) [] [] d_X11_useCircuit_5 rfl lk_X11_289 (hx sx_0) rfl rfl rfl (Nat.le_of_ble_eq_true rfl) (Nat.le_of_ble_eq_true rfl) (c_X11_needCircuit hx F M2 (.inl none, M5) e4) (st9 := []) rfl ?_
      refine sm_aload_n (q := 9) d_X11_useCircuit_8 rfl rfl ?_
      refine sm_getr (q := 12) d_X11_useCircuit_9 rfl fl_X11_61 (hx sx_0) rfl ?_
      refine sm_aload_n (q := 13) d_X11_useCircuit_12 rfl rfl ?_
      refine sm_getr (q := 16) d_X11_useCircuit_13 rfl fl_X11_10 (hx sx_0) rfl ?_
      refine sm_aload_n (q := 17) d_X11_useCircuit_16 rfl rfl ?_
      refine sm_getr (q := 20) d_X11_useCircuit_17 rfl fl_X11_19 (hx sx_0) rfl ?_
      obtain ⟨q7, e7, h⟩ := sm_bd h
      refine sm_callV (q := 23) (d' := 3) [] [.ref 1, .ref 5] d_X11_useCircuit_20 rfl lk_X11_309 (hx sx_64) rfl rfl rfl (Nat.le_of_ble_eq_true rfl) (Nat.le_of_ble_eq_true rfl) (c_X9_unfold hx F M5 _ e7) (st9 := [.int q7.1]) rfl ?_
      refine sm_if_ne (q := 26) (t := 37) d_X11_useCircuit_23 rfl rfl (fun c8 => ?_) (fun c8 => ?_)
      · replace h := sm_if c8 h
        refine sm_aload_n (q := 38) d_X11_useCircuit_37 rfl rfl ?_
        refine sm_getr (q := 41) d_X11_useCircuit_38 rfl fl_X11_33 (hx sx_0) rfl ?_
        refine sm_aload_n (q := 42) d_X11_useCircuit_41 rfl rfl ?_
        refine sm_getr (q := 45) d_X11_useCircuit_42 rfl fl_X11_26 (hx sx_0) rfl ?_
        obtain ⟨q9, e9, h⟩ := sm_bd h
        refine sm_callV (q := 48) (d' := 2) [] [.ref 24] d_X11_useCircuit_45 rfl lk_X11_136 (hx sx_26) rfl rfl rfl (Nat.le_of_ble_eq_true rfl) (Nat.le_of_ble_eq_true rfl) (c_X6_remember hx F 24 ⟨hx sx_24, hx sx_25⟩ q7.2 _ e9) (st9 := [.ref q9.1]) rfl ?_
        refine sm_pop (q := 49) d_X11_useCircuit_48 rfl rfl ?_
        refine sm_aload_n (q := 50) d_X11_useCircuit_49 rfl rfl ?_
        refine sm_getr (q := 53) d_X11_useCircuit_50 rfl fl_X11_26 (hx sx_0) rfl ?_
        refine sm_aload_n (q := 54) d_X11_useCircuit_53 rfl rfl ?_
        refine sm_getr (q := 57) d_X11_useCircuit_54 rfl fl_X11_61 (hx sx_0) rfl ?_
        refine sm_getr (q := 60) d_X11_useCircuit_57 rfl fl_X11_315 (hx sx_64) rfl ?_
        obtain ⟨q10, e10, h⟩ := sm_bd h
        refine sm_callV (q := 63) (d' := 1) [] [.ref 65] d_X11_useCircuit_60 rfl lk_X11_248 (hx sx_24) rfl rfl rfl (Nat.le_of_ble_eq_true rfl) (Nat.le_of_ble_eq_true rfl) (c_X7_copyFrom hx F 24 65 ⟨hx sx_24, hx sx_25⟩ ⟨hx sx_65, hx sx_66⟩ q9.2 _ e10) (st9 := []) rfl ?_
        refine sm_aload_n (q := 64) d_X11_useCircuit_63 rfl rfl ?_
        refine sm_getr (q := 67) d_X11_useCircuit_64 rfl fl_X11_26 (hx sx_0) rfl ?_
        obtain ⟨q11, e11, h⟩ := sm_bd h
        refine sm_callV (q := 70) (d' := 0) [] [] d_X11_useCircuit_67 rfl lk_X11_215 (hx sx_24) rfl rfl rfl (Nat.le_of_ble_eq_true rfl) (Nat.le_of_ble_eq_true rfl) (c_X7_symbolMask hx F 24 ⟨hx sx_24, hx sx_25⟩ q10 _ e11) (st9 := [.int q11]) rfl ?_
        obtain ⟨q12, e12, h⟩ := sm_bd h
        refine sm_callS (q := 73) (d' := 0) [] [.int q11] d_X11_useCircuit_70 rfl lk_X11_218 rfl (Nat.le_of_ble_eq_true rfl) (Nat.le_of_ble_eq_true rfl) (c_J6_bitCount_0f7a4 hx F q11 q10 _ e12) (st9 := [.int q12]) rfl ?_
        obtain rfl := Option.some.inj h
        exact sm_iret d_X11_useCircuit_73 rfl rfl rfl rfl
      · replace h := sm_it c8 h
        obtain rfl := Option.some.inj h
        exact sm_throwNW rfl lt_X11_150_313_154 d_X11_useCircuit_26 d_X11_useCircuit_29 d_X11_useCircuit_30 d_X11_useCircuit_33 d_X11_useCircuit_36 (Nat.le_of_ble_eq_true rfl) (Nat.le_of_ble_eq_true rfl) rfl rfl
    · exact sm_callVX (d' := 6) [] [] d_X11_useCircuit_5 lk_X11_289 (hx sx_0) rfl rfl rfl (Nat.le_of_ble_eq_true rfl) (Nat.le_of_ble_eq_true rfl) (c_X11_needCircuit hx F M2 (.inr v6, M5) e4) rfl rfl
  · exact sm_callVX (d' := 6) [] [] d_X11_useCircuit_1 lk_X11_251 (hx sx_0) rfl rfl rfl (Nat.le_of_ble_eq_true rfl) (Nat.le_of_ble_eq_true rfl) (c_X11_needGraph hx F M (.inr v3, M2) e1) rfl rfl
theorem c_X11_useCircuit {sk : List sm_Sh} (hx : sm_ext skX sk) (F : Nat) (M : sm_M) (r : sm_O × sm_M) (h : f_X11_useCircuit F M = some r) : sm_Ct yX11_useCircuit md_X11_useCircuit 7 sk [.ref 0] M (r.1) r.2 := sm_enter 0 pn_X11 rfl (Nat.le_of_ble_eq_true rfl) rfl (j_X11_useCircuit hx F M r h)
/-! UniversalCycles.save()I -/
theorem d_X11_save_0 : decode cX11_save 0 = .ok (.aload_n 0, 1) := by decide +kernel
theorem d_X11_save_1 : decode cX11_save 1 = .ok (.aload_n 0, 1) := by decide +kernel
theorem d_X11_save_2 : decode cX11_save 2 = .ok (.getfield 10, 3) := by decide +kernel
theorem d_X11_save_5 : decode cX11_save 5 = .ok (.getfield 316, 3) := by decide +kernel
theorem d_X11_save_8 : decode cX11_save 8 = .ok (.putfield 319, 3) := by decide +kernel
theorem d_X11_save_11 : decode cX11_save 11 = .ok (.aload_n 0, 1) := by decide +kernel
theorem d_X11_save_12 : decode cX11_save 12 = .ok (.aload_n 0, 1) := by decide +kernel
theorem d_X11_save_13 : decode cX11_save 13 = .ok (.getfield 10, 3) := by decide +kernel
theorem d_X11_save_16 : decode cX11_save 16 = .ok (.getfield 111, 3) := by decide +kernel
theorem d_X11_save_19 : decode cX11_save 19 = .ok (.putfield 322, 3) := by decide +kernel
theorem d_X11_save_22 : decode cX11_save 22 = .ok (.aload_n 0, 1) := by decide +kernel
theorem d_X11_save_23 : decode cX11_save 23 = .ok (.aload_n 0, 1) := by decide +kernel
theorem d_X11_save_24 : decode cX11_save 24 = .ok (.getfield 10, 3) := by decide +kernel
theorem d_X11_save_27 : decode cX11_save 27 = .ok (.getfield 230, 3) := by decide +kernel
theorem d_X11_save_30 : decode cX11_save 30 = .ok (.putfield 325, 3) := by decide +kernel
theorem d_X11_save_33 : decode cX11_save 33 = .ok (.aload_n 0, 1) := by decide +kernel
theorem d_X11_save_34 : decode cX11_save 34 = .ok (.getfield 79, 3) := by decide +kernel
theorem d_X11_save_37 : decode cX11_save 37 = .ok (.aload_n 0, 1) := by decide +kernel
theorem d_X11_save_38 : decode cX11_save 38 = .ok (.getfield 26, 3) := by decide +kernel
theorem d_X11_save_41 : decode cX11_save 41 = .ok (.invokevirtual 248, 3) := by decide +kernel
theorem d_X11_save_44 : decode cX11_save 44 = .ok (.aload_n 0, 1) := by decide +kernel
theorem d_X11_save_45 : decode cX11_save 45 = .ok (.iconst 1, 1) := by decide +kernel
theorem d_X11_save_46 : decode cX11_save 46 = .ok (.putfield 328, 3) := by decide +kernel
theorem d_X11_save_49 : decode cX11_save 49 = .ok (.aload_n 0, 1) := by decide +kernel
theorem d_X11_save_50 : decode cX11_save 50 = .ok (.getfield 26, 3) := by decide +kernel
theorem d_X11_save_53 : decode cX11_save 53 = .ok (.getfield 130, 3) := by decide +kernel
theorem d_X11_save_56 : decode cX11_save 56 = .ok (.ireturn, 1) := by decide +kernel
def f_X11_save (F : Nat) (M : sm_M) : Option (Int32 × sm_M) := (f_X7_copyFrom F 78 24 (sm_mi (sm_mi (sm_mi M 0 14 (M.1 1 1)) 0 15 (((sm_mi M 0 14 (M.1 1 1))).1 1 2)) 0 16 (((sm_mi (sm_mi M 0 14 (M.1 1 1)) 0 15 (((sm_mi M 0 14 (M.1 1 1))).1 1 2))).1 1 3))).bind fun q1 => some ((((sm_mi q1 0 17 (1 : Int32))).1 24 1), (sm_mi q1 0 17 (1 : Int32)))
set_option maxRecDepth 100000 in
set_option maxHeartbeats 4000000 in
theorem j_X11_save {sk : List sm_Sh} (hx : sm_ext skX sk) (F : Nat) : ∀ (M : sm_M) (r : Int32 × sm_M), f_X11_save F M = some r → sm_J (md_X11_save, 2, sk, .inl (some (.int r.1)), r.2) 0 [some (.ref 0)] [] M := by
  intro   M r h
  unfold f_X11_save at h
  refine sm_aload_n (q := 1) d_X11_save_0 rfl rfl ?_
  refine sm_aload_n (q := 2) d_X11_save_1 rfl rfl ?_
  refine sm_getr (q := 5) d_X11_save_2 rfl fl_X11_10 (hx sx_0) rfl ?_
  refine sm_geti (q := 8) d_X11_save_5 rfl fl_X11_316 (hx sx_1) rfl ?_
  refine sm_puti (q := 11) d_X11_save_8 rfl fw_X11_319 (hx sx_0) rfl rfl rfl ?_
  refine sm_aload_n (q := 12) d_X11_save_11 rfl rfl ?_
  refine sm_aload_n (q := 13) d_X11_save_12 rfl rfl ?_
  refine sm_getr (q := 16) d_X11_save_13 rfl fl_X11_10 (hx sx_0) rfl ?_
  refine sm_geti (q := 19) d_X11_save_16 rfl fl_X11_111 (hx sx_1) rfl ?_
  refine sm_puti (q := 22) d_X11_save_19 rfl fw_X11_322 (hx sx_0) rfl rfl rfl ?_
  refine sm_aload_n (q := 23) d_X11_save_22 rfl rfl ?_
  refine sm_aload_n (q := 24) d_X11_save_23 rfl rfl ?_
  refine sm_getr (q := 27) d_X11_save_24 rfl fl_X11_10 (hx sx_0) rfl ?_
  refine sm_geti (q := 30) d_X11_save_27 rfl fl_X11_230 (hx sx_1) rfl ?_
  refine sm_puti (q := 33) d_X11_save_30 rfl fw_X11_325 (hx sx_0) rfl rfl rfl ?_
  refine sm_aload_n (q := 34) d_X11_save_33 rfl rfl ?_
  refine sm_getr (q := 37) d_X11_save_34 rfl fl_X11_79 (hx sx_0) rfl ?_
  refine sm_aload_n (q := 38) d_X11_save_37 rfl rfl ?_
  refine sm_getr (q := 41) d_X11_save_38 rfl fl_X11_26 (hx sx_0) rfl ?_
  obtain ⟨q1, e1, h⟩ := sm_bd h
  refine sm_callV (q := 44) (d' := 1) [] [.ref 24] d_X11_save_41 rfl lk_X11_248 (hx sx_78) rfl rfl rfl (Nat.le_of_ble_eq_true rfl) (Nat.le_of_ble_eq_true rfl) (c_X7_copyFrom hx F 78 24 ⟨hx sx_78, hx sx_79⟩ ⟨hx sx_24, hx sx_25⟩ (sm_mi (sm_mi (sm_mi M 0 14 (M.1 1 1)) 0 15 (((sm_mi M 0 14 (M.1 1 1))).1 1 2)) 0 16 (((sm_mi (sm_mi M 0 14 (M.1 1 1)) 0 15 (((sm_mi M 0 14 (M.1 1 1))).1 1 2))).1 1 3)) _ e1) (st9 := []) rfl ?_
  refine sm_aload_n (q := 45) d_X11_save_44 rfl rfl ?_
  refine sm_iconst (q := 46) d_X11_save_45 rfl ci_1 ?_
  refine sm_puti (q := 49) d_X11_save_46 rfl fw_X11_328 (hx sx_0) rfl (by decide) (by decide) ?_
  refine sm_aload_n (q := 50) d_X11_save_49 rfl rfl ?_
  refine sm_getr (q := 53) d_X11_save_50 rfl fl_X11_26 (hx sx_0) rfl ?_
  refine sm_geti (q := 56) d_X11_save_53 rfl fl_X11_130 (hx sx_24) rfl ?_
  obtain rfl := Option.some.inj h
  exact sm_iret d_X11_save_56 rfl rfl rfl rfl
theorem c_X11_save {sk : List sm_Sh} (hx : sm_ext skX sk) (F : Nat) (M : sm_M) (r : Int32 × sm_M) (h : f_X11_save F M = some r) : sm_Ct yX11_save md_X11_save 2 sk [.ref 0] M (.inl (some (.int r.1))) r.2 := sm_enter 0 pn_X11 rfl (Nat.le_of_ble_eq_true rfl) rfl (j_X11_save hx F M r h)
