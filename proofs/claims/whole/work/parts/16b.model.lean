/-! ===== methods, decompiled: 16b.model ===== -/
/-! UniversalCyclesModel.elementCount()I -/
theorem d_X12_elementCount_0 : decode cX12_elementCount 0 = .ok (.aload_n 0, 1) := by decide +kernel
theorem d_X12_elementCount_1 : decode cX12_elementCount 1 = .ok (.iconst 0, 1) := by decide +kernel
theorem d_X12_elementCount_2 : decode cX12_elementCount 2 = .ok (.putfield 1, 3) := by decide +kernel
theorem d_X12_elementCount_5 : decode cX12_elementCount 5 = .ok (.aload_n 0, 1) := by decide +kernel
theorem d_X12_elementCount_6 : decode cX12_elementCount 6 = .ok (.getfield 97, 3) := by decide +kernel
theorem d_X12_elementCount_9 : decode cX12_elementCount 9 = .ok (.ireturn, 1) := by decide +kernel
def f_X12_elementCount (F : Nat) (M : sm_M) : Option (Int32 × sm_M) := some ((((sm_mi M 80 0 (0 : Int32))).1 80 5), (sm_mi M 80 0 (0 : Int32)))
set_option maxRecDepth 100000 in
set_option maxHeartbeats 4000000 in
theorem j_X12_elementCount {sk : List sm_Sh} (hx : sm_ext skM sk) (F : Nat) : ∀ (M : sm_M) (r : Int32 × sm_M), f_X12_elementCount F M = some r → sm_J (md_X12_elementCount, 0, sk, .inl (some (.int r.1)), r.2) 0 [some (.ref 80)] [] M := by
  intro   M r h
  unfold f_X12_elementCount at h
  refine sm_aload_n (q := 1) d_X12_elementCount_0 rfl rfl ?_
  refine sm_iconst (q := 2) d_X12_elementCount_1 rfl ci_0 ?_
  refine sm_puti (q := 5) d_X12_elementCount_2 rfl fw_X12_1 (hx sx_80) rfl rfl rfl ?_
  refine sm_aload_n (q := 6) d_X12_elementCount_5 rfl rfl ?_
  refine sm_geti (q := 9) d_X12_elementCount_6 rfl fl_X12_97 (hx sx_80) rfl ?_
  obtain rfl := Option.some.inj h
  exact sm_iret d_X12_elementCount_9 rfl rfl rfl rfl
theorem c_X12_elementCount {sk : List sm_Sh} (hx : sm_ext skM sk) (F : Nat) (M : sm_M) (r : Int32 × sm_M) (h : f_X12_elementCount F M = some r) : sm_Ct yX12_elementCount md_X12_elementCount 0 sk [.ref 80] M (.inl (some (.int r.1))) r.2 := sm_enter 0 pn_X12 rfl (Nat.le_of_ble_eq_true rfl) rfl (j_X12_elementCount hx F M r h)
/-! UniversalCyclesModel.isElement(I)Z -/
theorem d_X12_isElement_0 : decode cX12_isElement 0 = .ok (.iload_n 1, 1) := by decide +kernel
theorem d_X12_isElement_1 : decode cX12_isElement 1 = .ok (.iconst 0, 1) := by decide +kernel
theorem d_X12_isElement_2 : decode cX12_isElement 2 = .ok (.aload_n 0, 1) := by decide +kernel
theorem d_X12_isElement_3 : decode cX12_isElement 3 = .ok (.getfield 97, 3) := by decide +kernel
theorem d_X12_isElement_6 : decode cX12_isElement 6 = .ok (.iconst 1, 1) := by decide +kernel
theorem d_X12_isElement_7 : decode cX12_isElement 7 = .ok (.isub, 1) := by decide +kernel
theorem d_X12_isElement_8 : decode cX12_isElement 8 = .ok (.invokestatic 115, 3) := by decide +kernel
theorem d_X12_isElement_11 : decode cX12_isElement 11 = .ok (.ireturn, 1) := by decide +kernel
def f_X12_isElement (F : Nat) (x1 : Int32) (M : sm_M) : Option (Int32) := (f_X12_isIn F x1 (0 : Int32) ((M.1 80 5) - (1 : Int32)) M).bind fun q1 => sm_g (sm_nar .boolean q1) (some q1)
set_option maxRecDepth 100000 in
set_option maxHeartbeats 4000000 in
theorem j_X12_isElement {sk : List sm_Sh} (hx : sm_ext skM sk) (F : Nat) : ∀ (x1 : Int32) (M : sm_M) (r : Int32), f_X12_isElement F x1 M = some r → sm_J (md_X12_isElement, 1, sk, .inl (some (.int r)), M) 0 [some (.ref 80), some (.int x1)] [] M := by
  intro x1  M r h
  unfold f_X12_isElement at h
  refine sm_iload_n (q := 1) d_X12_isElement_0 rfl rfl ?_
  refine sm_iconst (q := 2) d_X12_isElement_1 rfl ci_0 ?_
  refine sm_aload_n (q := 3) d_X12_isElement_2 rfl rfl ?_
  refine sm_geti (q := 6) d_X12_isElement_3 rfl fl_X12_97 (hx sx_80) rfl ?_
  refine sm_iconst (q := 7) d_X12_isElement_6 rfl ci_1 ?_
  refine sm_isub (q := 8) d_X12_isElement_7 rfl ?_
  obtain ⟨q1, e1, h⟩ := sm_bd h
  refine sm_callS (q := 11) (d' := 0) [] [.int x1, .int (0 : Int32), .int ((M.1 80 5) - (1 : Int32))] d_X12_isElement_8 rfl lk_X12_115 rfl (Nat.le_of_ble_eq_true rfl) (Nat.le_of_ble_eq_true rfl) (c_X12_isIn hx F x1 (0 : Int32) ((M.1 80 5) - (1 : Int32)) M _ e1) (st9 := [.int q1]) rfl ?_
  obtain ⟨g2, h⟩ := sm_gt h
  obtain rfl := Option.some.inj h
  exact sm_iret d_X12_isElement_11 rfl (sm_nar_of g2).1 rfl rfl
theorem c_X12_isElement {sk : List sm_Sh} (hx : sm_ext skM sk) (F : Nat) (x1 : Int32) (M : sm_M) (r : Int32) (h : f_X12_isElement F x1 M = some r) : sm_Ct yX12_isElement md_X12_isElement 1 sk [.ref 80, .int x1] M (.inl (some (.int r))) M := sm_enter 0 pn_X12 rfl (Nat.le_of_ble_eq_true rfl) rfl (j_X12_isElement hx F x1 M r h)
/-! UniversalCyclesModel.elementAt(II)I -/
theorem d_X12_elementAt_0 : decode cX12_elementAt 0 = .ok (.aload_n 0, 1) := by decide +kernel
theorem d_X12_elementAt_1 : decode cX12_elementAt 1 = .ok (.iconst 0, 1) := by decide +kernel
theorem d_X12_elementAt_2 : decode cX12_elementAt 2 = .ok (.putfield 1, 3) := by decide +kernel
theorem d_X12_elementAt_5 : decode cX12_elementAt 5 = .ok (.aload_n 0, 1) := by decide +kernel
theorem d_X12_elementAt_6 : decode cX12_elementAt 6 = .ok (.iload_n 1, 1) := by decide +kernel
theorem d_X12_elementAt_7 : decode cX12_elementAt 7 = .ok (.invokevirtual 131, 3) := by decide +kernel
theorem d_X12_elementAt_10 : decode cX12_elementAt 10 = .ok (.ifCond .eq 30, 3) := by decide +kernel
theorem d_X12_elementAt_13 : decode cX12_elementAt 13 = .ok (.iload_n 2, 1) := by decide +kernel
theorem d_X12_elementAt_14 : decode cX12_elementAt 14 = .ok (.iconst 0, 1) := by decide +kernel
theorem d_X12_elementAt_15 : decode cX12_elementAt 15 = .ok (.aload_n 0, 1) := by decide +kernel
theorem d_X12_elementAt_16 : decode cX12_elementAt 16 = .ok (.getfield 13, 3) := by decide +kernel
theorem d_X12_elementAt_19 : decode cX12_elementAt 19 = .ok (.iconst 1, 1) := by decide +kernel
theorem d_X12_elementAt_20 : decode cX12_elementAt 20 = .ok (.isub, 1) := by decide +kernel
theorem d_X12_elementAt_21 : decode cX12_elementAt 21 = .ok (.invokestatic 115, 3) := by decide +kernel
theorem d_X12_elementAt_24 : decode cX12_elementAt 24 = .ok (.ifCond .eq 16, 3) := by decide +kernel
theorem d_X12_elementAt_27 : decode cX12_elementAt 27 = .ok (.aload_n 0, 1) := by decide +kernel
theorem d_X12_elementAt_28 : decode cX12_elementAt 28 = .ok (.getfield 19, 3) := by decide +kernel
theorem d_X12_elementAt_31 : decode cX12_elementAt 31 = .ok (.iconst 5, 1) := by decide +kernel
theorem d_X12_elementAt_32 : decode cX12_elementAt 32 = .ok (.iload_n 1, 1) := by decide +kernel
theorem d_X12_elementAt_33 : decode cX12_elementAt 33 = .ok (.imul, 1) := by decide +kernel
theorem d_X12_elementAt_34 : decode cX12_elementAt 34 = .ok (.iload_n 2, 1) := by decide +kernel
theorem d_X12_elementAt_35 : decode cX12_elementAt 35 = .ok (.iadd, 1) := by decide +kernel
theorem d_X12_elementAt_36 : decode cX12_elementAt 36 = .ok (.iaload, 1) := by decide +kernel
theorem d_X12_elementAt_37 : decode cX12_elementAt 37 = .ok (.goto 8, 3) := by decide +kernel
theorem d_X12_elementAt_40 : decode cX12_elementAt 40 = .ok (.aload_n 0, 1) := by decide +kernel
theorem d_X12_elementAt_41 : decode cX12_elementAt 41 = .ok (.iconst 1, 1) := by decide +kernel
theorem d_X12_elementAt_42 : decode cX12_elementAt 42 = .ok (.invokevirtual 122, 3) := by decide +kernel
theorem d_X12_elementAt_45 : decode cX12_elementAt 45 = .ok (.ireturn, 1) := by decide +kernel
def f_X12_elementAt_45 (F : Nat) (y0 : Int32) (M : sm_M) : Option (Int32 × sm_M) := some (y0, M)
set_option maxRecDepth 100000 in
set_option maxHeartbeats 4000000 in
theorem j_X12_elementAt_45 {sk : List sm_Sh} (hx : sm_ext skM sk) (F : Nat) : ∀ (y0 : Int32) (M : sm_M) (r : Int32 × sm_M), f_X12_elementAt_45 F y0 M = some r → sm_J (md_X12_elementAt, 2, sk, .inl (some (.int r.1)), r.2) 45 [none, none, none] [.int y0] M := by
  intro y0  M r h
  unfold f_X12_elementAt_45 at h
  obtain rfl := Option.some.inj h
  exact sm_iret d_X12_elementAt_45 rfl rfl rfl rfl
def f_X12_elementAt_40 (F : Nat) (M : sm_M) : Option (Int32 × sm_M) := (f_X12_fail F (1 : Int32) M).bind fun q1 => f_X12_elementAt_45 F q1.1 q1.2
set_option maxRecDepth 100000 in
set_option maxHeartbeats 4000000 in
theorem j_X12_elementAt_40 {sk : List sm_Sh} (hx : sm_ext skM sk) (F : Nat) : ∀ (M : sm_M) (r : Int32 × sm_M), f_X12_elementAt_40 F M = some r → sm_J (md_X12_elementAt, 2, sk, .inl (some (.int r.1)), r.2) 40 [some (.ref 80), none, none] [] M := by
  intro   M r h
  unfold f_X12_elementAt_40 at h
  refine sm_aload_n (q := 41) d_X12_elementAt_40 rfl rfl ?_
  refine sm_iconst (q := 42) d_X12_elementAt_41 rfl ci_1 ?_
  obtain ⟨q1, e1, h⟩ := sm_bd h
  refine sm_callV (q := 45) (d' := 0) [] [.int (1 : Int32)] d_X12_elementAt_42 rfl lk_X12_122 (hx sx_80) rfl rfl rfl (Nat.le_of_ble_eq_true rfl) (Nat.le_of_ble_eq_true rfl) (c_X12_fail hx F (1 : Int32) M _ e1) (st9 := [.int q1.1]) rfl ?_
  refine sm_fg [0] ?_
  exact j_X12_elementAt_45 hx F q1.1 q1.2 _ h
def f_X12_elementAt (F : Nat) (x1 : Int32) (x2 : Int32) (M : sm_M) : Option (Int32 × sm_M) := (f_X12_isElement F x1 (sm_mi M 80 0 (0 : Int32))).bind fun q1 => if q1 = 0 then (f_X12_elementAt_40 F ((sm_mi M 80 0 (0 : Int32)))) else ((f_X12_isIn F x2 (0 : Int32) ((((sm_mi M 80 0 (0 : Int32))).1 80 2) - (1 : Int32)) (sm_mi M 80 0 (0 : Int32))).bind fun q3 => if q3 = 0 then (f_X12_elementAt_40 F ((sm_mi M 80 0 (0 : Int32)))) else (sm_g (sm_ib (((5 : Int32) * x1) + x2) 1000) (f_X12_elementAt_45 F ((sm_mi M 80 0 (0 : Int32)).1 81 (((5 : Int32) * x1) + x2).toNatClampNeg) ((sm_mi M 80 0 (0 : Int32))))))
set_option maxRecDepth 100000 in
set_option maxHeartbeats 4000000 in
theorem j_X12_elementAt {sk : List sm_Sh} (hx : sm_ext skM sk) (F : Nat) : ∀ (x1 : Int32) (x2 : Int32) (M : sm_M) (r : Int32 × sm_M), f_X12_elementAt F x1 x2 M = some r → sm_J (md_X12_elementAt, 2, sk, .inl (some (.int r.1)), r.2) 0 [some (.ref 80), some (.int x1), some (.int x2)] [] M := by
  intro x1 x2  M r h
  unfold f_X12_elementAt at h
  refine sm_aload_n (q := 1) d_X12_elementAt_0 rfl rfl ?_
  refine sm_iconst (q := 2) d_X12_elementAt_1 rfl ci_0 ?_
  refine sm_puti (q := 5) d_X12_elementAt_2 rfl fw_X12_1 (hx sx_80) rfl rfl rfl ?_
  refine sm_aload_n (q := 6) d_X12_elementAt_5 rfl rfl ?_
  refine sm_iload_n (q := 7) d_X12_elementAt_6 rfl rfl ?_
  obtain ⟨q1, e1, h⟩ := sm_bd h
  refine sm_callV (q := 10) (d' := 1) [] [.int x1] d_X12_elementAt_7 rfl lk_X12_131 (hx sx_80) rfl rfl rfl (Nat.le_of_ble_eq_true rfl) (Nat.le_of_ble_eq_true rfl) (c_X12_isElement hx F x1 (sm_mi M 80 0 (0 : Int32)) _ e1) (st9 := [.int q1]) rfl ?_
  refine sm_if_eq (q := 13) (t := 40) d_X12_elementAt_10 rfl rfl (fun c2 => ?_) (fun c2 => ?_)
  · replace h := sm_it c2 h
    refine sm_fg [1, 2] ?_
    exact j_X12_elementAt_40 hx F ((sm_mi M 80 0 (0 : Int32))) _ h
  · replace h := sm_if c2 h
    refine sm_iload_n (q := 14) d_X12_elementAt_13 rfl rfl ?_
    refine sm_iconst (q := 15) d_X12_elementAt_14 rfl ci_0 ?_
    refine sm_aload_n (q := 16) d_X12_elementAt_15 rfl rfl ?_
    refine sm_geti (q := 19) d_X12_elementAt_16 rfl fl_X12_13 (hx sx_80) rfl ?_
    refine sm_iconst (q := 20) d_X12_elementAt_19 rfl ci_1 ?_
    refine sm_isub (q := 21) d_X12_elementAt_20 rfl ?_
    obtain ⟨q3, e3, h⟩ := sm_bd h
    refine sm_callS (q := 24) (d' := 0) [] [.int x2, .int (0 : Int32), .int ((((sm_mi M 80 0 (0 : Int32))).1 80 2) - (1 : Int32))] d_X12_elementAt_21 rfl lk_X12_115 rfl (Nat.le_of_ble_eq_true rfl) (Nat.le_of_ble_eq_true rfl) (c_X12_isIn hx F x2 (0 : Int32) ((((sm_mi M 80 0 (0 : Int32))).1 80 2) - (1 : Int32)) (sm_mi M 80 0 (0 : Int32)) _ e3) (st9 := [.int q3]) rfl ?_
    refine sm_if_eq (q := 27) (t := 40) d_X12_elementAt_24 rfl rfl (fun c4 => ?_) (fun c4 => ?_)
    · replace h := sm_it c4 h
      refine sm_fg [1, 2] ?_
      exact j_X12_elementAt_40 hx F ((sm_mi M 80 0 (0 : Int32))) _ h
    · replace h := sm_if c4 h
      refine sm_aload_n (q := 28) d_X12_elementAt_27 rfl rfl ?_
      refine sm_getr (q := 31) d_X12_elementAt_28 rfl fl_X12_19 (hx sx_80) rfl ?_
      refine sm_iconst (q := 32) d_X12_elementAt_31 rfl ci_5 ?_
      refine sm_iload_n (q := 33) d_X12_elementAt_32 rfl rfl ?_
      refine sm_imul (q := 34) d_X12_elementAt_33 rfl ?_
      refine sm_iload_n (q := 35) d_X12_elementAt_34 rfl rfl ?_
      refine sm_iadd (q := 36) d_X12_elementAt_35 rfl ?_
      obtain ⟨g5, h⟩ := sm_gt h
      refine sm_iaload (q := 37) d_X12_elementAt_36 rfl (hx sx_81) (sm_ib_of g5) ?_
      refine sm_goto (t := 45) d_X12_elementAt_37 rfl ?_
      refine sm_fg [0, 1, 2] ?_
      exact j_X12_elementAt_45 hx F ((sm_mi M 80 0 (0 : Int32)).1 81 (((5 : Int32) * x1) + x2).toNatClampNeg) ((sm_mi M 80 0 (0 : Int32))) _ h
theorem c_X12_elementAt {sk : List sm_Sh} (hx : sm_ext skM sk) (F : Nat) (x1 : Int32) (x2 : Int32) (M : sm_M) (r : Int32 × sm_M) (h : f_X12_elementAt F x1 x2 M = some r) : sm_Ct yX12_elementAt md_X12_elementAt 2 sk [.ref 80, .int x1, .int x2] M (.inl (some (.int r.1))) r.2 := sm_enter 0 pn_X12 rfl (Nat.le_of_ble_eq_true rfl) rfl (j_X12_elementAt hx F x1 x2 M r h)
/-! UniversalCyclesModel.isSymbol(I)Z -/
theorem d_X12_isSymbol_0 : decode cX12_isSymbol 0 = .ok (.iload_n 1, 1) := by decide +kernel
theorem d_X12_isSymbol_1 : decode cX12_isSymbol 1 = .ok (.iconst 0, 1) := by decide +kernel
theorem d_X12_isSymbol_2 : decode cX12_isSymbol 2 = .ok (.aload_n 0, 1) := by decide +kernel
theorem d_X12_isSymbol_3 : decode cX12_isSymbol 3 = .ok (.getfield 16, 3) := by decide +kernel
theorem d_X12_isSymbol_6 : decode cX12_isSymbol 6 = .ok (.iconst 1, 1) := by decide +kernel
theorem d_X12_isSymbol_7 : decode cX12_isSymbol 7 = .ok (.isub, 1) := by decide +kernel
theorem d_X12_isSymbol_8 : decode cX12_isSymbol 8 = .ok (.invokestatic 115, 3) := by decide +kernel
theorem d_X12_isSymbol_11 : decode cX12_isSymbol 11 = .ok (.ireturn, 1) := by decide +kernel
def f_X12_isSymbol (F : Nat) (x1 : Int32) (M : sm_M) : Option (Int32) := (f_X12_isIn F x1 (0 : Int32) ((M.1 80 3) - (1 : Int32)) M).bind fun q1 => sm_g (sm_nar .boolean q1) (some q1)
set_option maxRecDepth 100000 in
set_option maxHeartbeats 4000000 in
theorem j_X12_isSymbol {sk : List sm_Sh} (hx : sm_ext skM sk) (F : Nat) : ∀ (x1 : Int32) (M : sm_M) (r : Int32), f_X12_isSymbol F x1 M = some r → sm_J (md_X12_isSymbol, 1, sk, .inl (some (.int r)), M) 0 [some (.ref 80), some (.int x1)] [] M := by
  intro x1  M r h
  unfold f_X12_isSymbol at h
  refine sm_iload_n (q := 1) d_X12_isSymbol_0 rfl rfl ?_
  refine sm_iconst (q := 2) d_X12_isSymbol_1 rfl ci_0 ?_
  refine sm_aload_n (q := 3) d_X12_isSymbol_2 rfl rfl ?_
  refine sm_geti (q := 6) d_X12_isSymbol_3 rfl fl_X12_16 (hx sx_80) rfl ?_
  refine sm_iconst (q := 7) d_X12_isSymbol_6 rfl ci_1 ?_
  refine sm_isub (q := 8) d_X12_isSymbol_7 rfl ?_
  obtain ⟨q1, e1, h⟩ := sm_bd h
  refine sm_callS (q := 11) (d' := 0) [] [.int x1, .int (0 : Int32), .int ((M.1 80 3) - (1 : Int32))] d_X12_isSymbol_8 rfl lk_X12_115 rfl (Nat.le_of_ble_eq_true rfl) (Nat.le_of_ble_eq_true rfl) (c_X12_isIn hx F x1 (0 : Int32) ((M.1 80 3) - (1 : Int32)) M _ e1) (st9 := [.int q1]) rfl ?_
  obtain ⟨g2, h⟩ := sm_gt h
  obtain rfl := Option.some.inj h
  exact sm_iret d_X12_isSymbol_11 rfl (sm_nar_of g2).1 rfl rfl
theorem c_X12_isSymbol {sk : List sm_Sh} (hx : sm_ext skM sk) (F : Nat) (x1 : Int32) (M : sm_M) (r : Int32) (h : f_X12_isSymbol F x1 M = some r) : sm_Ct yX12_isSymbol md_X12_isSymbol 1 sk [.ref 80, .int x1] M (.inl (some (.int r))) M := sm_enter 0 pn_X12 rfl (Nat.le_of_ble_eq_true rfl) rfl (j_X12_isSymbol hx F x1 M r h)
/-! UniversalCyclesModel.isPosition(I)Z -/
theorem d_X12_isPosition_0 : decode cX12_isPosition 0 = .ok (.iload_n 1, 1) := by decide +kernel
theorem d_X12_isPosition_1 : decode cX12_isPosition 1 = .ok (.iconst 0, 1) := by decide +kernel
theorem d_X12_isPosition_2 : decode cX12_isPosition 2 = .ok (.aload_n 0, 1) := by decide +kernel
theorem d_X12_isPosition_3 : decode cX12_isPosition 3 = .ok (.getfield 125, 3) := by decide +kernel
theorem d_X12_isPosition_6 : decode cX12_isPosition 6 = .ok (.iconst 1, 1) := by decide +kernel
theorem d_X12_isPosition_7 : decode cX12_isPosition 7 = .ok (.isub, 1) := by decide +kernel
theorem d_X12_isPosition_8 : decode cX12_isPosition 8 = .ok (.invokestatic 115, 3) := by decide +kernel
theorem d_X12_isPosition_11 : decode cX12_isPosition 11 = .ok (.ireturn, 1) := by decide +kernel
def f_X12_isPosition (F : Nat) (x1 : Int32) (M : sm_M) : Option (Int32) := (f_X12_isIn F x1 (0 : Int32) ((M.1 80 12) - (1 : Int32)) M).bind fun q1 => sm_g (sm_nar .boolean q1) (some q1)
set_option maxRecDepth 100000 in
set_option maxHeartbeats 4000000 in
theorem j_X12_isPosition {sk : List sm_Sh} (hx : sm_ext skM sk) (F : Nat) : ∀ (x1 : Int32) (M : sm_M) (r : Int32), f_X12_isPosition F x1 M = some r → sm_J (md_X12_isPosition, 1, sk, .inl (some (.int r)), M) 0 [some (.ref 80), some (.int x1)] [] M := by
  intro x1  M r h
  unfold f_X12_isPosition at h
  refine sm_iload_n (q := 1) d_X12_isPosition_0 rfl rfl ?_
  refine sm_iconst (q := 2) d_X12_isPosition_1 rfl ci_0 ?_
  refine sm_aload_n (q := 3) d_X12_isPosition_2 rfl rfl ?_
  refine sm_geti (q := 6) d_X12_isPosition_3 rfl fl_X12_125 (hx sx_80) rfl ?_
  refine sm_iconst (q := 7) d_X12_isPosition_6 rfl ci_1 ?_
  refine sm_isub (q := 8) d_X12_isPosition_7 rfl ?_
  obtain ⟨q1, e1, h⟩ := sm_bd h
  refine sm_callS (q := 11) (d' := 0) [] [.int x1, .int (0 : Int32), .int ((M.1 80 12) - (1 : Int32))] d_X12_isPosition_8 rfl lk_X12_115 rfl (Nat.le_of_ble_eq_true rfl) (Nat.le_of_ble_eq_true rfl) (c_X12_isIn hx F x1 (0 : Int32) ((M.1 80 12) - (1 : Int32)) M _ e1) (st9 := [.int q1]) rfl ?_
  obtain ⟨g2, h⟩ := sm_gt h
  obtain rfl := Option.some.inj h
  exact sm_iret d_X12_isPosition_11 rfl (sm_nar_of g2).1 rfl rfl
theorem c_X12_isPosition {sk : List sm_Sh} (hx : sm_ext skM sk) (F : Nat) (x1 : Int32) (M : sm_M) (r : Int32) (h : f_X12_isPosition F x1 M = some r) : sm_Ct yX12_isPosition md_X12_isPosition 1 sk [.ref 80, .int x1] M (.inl (some (.int r))) M := sm_enter 0 pn_X12 rfl (Nat.le_of_ble_eq_true rfl) rfl (j_X12_isPosition hx F x1 M r h)
/-! UniversalCyclesModel.record()V -/
theorem d_X12_record_0 : decode cX12_record 0 = .ok (.aload_n 0, 1) := by decide +kernel
theorem d_X12_record_1 : decode cX12_record 1 = .ok (.getfield 128, 3) := by decide +kernel
theorem d_X12_record_4 : decode cX12_record 4 = .ok (.bipush 12, 2) := by decide +kernel
theorem d_X12_record_6 : decode cX12_record 6 = .ok (.if_icmp .ne 82, 3) := by decide +kernel
theorem d_X12_record_9 : decode cX12_record 9 = .ok (.iconst 1, 1) := by decide +kernel
theorem d_X12_record_10 : decode cX12_record 10 = .ok (.istore_n 1, 1) := by decide +kernel
theorem d_X12_record_11 : decode cX12_record 11 = .ok (.iload_n 1, 1) := by decide +kernel
theorem d_X12_record_12 : decode cX12_record 12 = .ok (.bipush 12, 2) := by decide +kernel
theorem d_X12_record_14 : decode cX12_record 14 = .ok (.if_icmp .ge 64, 3) := by decide +kernel
theorem d_X12_record_17 : decode cX12_record 17 = .ok (.aload_n 0, 1) := by decide +kernel
theorem d_X12_record_18 : decode cX12_record 18 = .ok (.getfield 42, 3) := by decide +kernel
theorem d_X12_record_21 : decode cX12_record 21 = .ok (.iload_n 1, 1) := by decide +kernel
theorem d_X12_record_22 : decode cX12_record 22 = .ok (.iconst 1, 1) := by decide +kernel
theorem d_X12_record_23 : decode cX12_record 23 = .ok (.isub, 1) := by decide +kernel
theorem d_X12_record_24 : decode cX12_record 24 = .ok (.aload_n 0, 1) := by decide +kernel
theorem d_X12_record_25 : decode cX12_record 25 = .ok (.getfield 42, 3) := by decide +kernel
theorem d_X12_record_28 : decode cX12_record 28 = .ok (.iload_n 1, 1) := by decide +kernel
theorem d_X12_record_29 : decode cX12_record 29 = .ok (.iaload, 1) := by decide +kernel
theorem d_X12_record_30 : decode cX12_record 30 = .ok (.iastore, 1) := by decide +kernel
theorem d_X12_record_31 : decode cX12_record 31 = .ok (.iconst 0, 1) := by decide +kernel
theorem d_X12_record_32 : decode cX12_record 32 = .ok (.istore_n 2, 1) := by decide +kernel
theorem d_X12_record_33 : decode cX12_record 33 = .ok (.iload_n 2, 1) := by decide +kernel
theorem d_X12_record_34 : decode cX12_record 34 = .ok (.sipush 240, 3) := by decide +kernel
theorem d_X12_record_37 : decode cX12_record 37 = .ok (.if_icmp .ge 35, 3) := by decide +kernel
theorem d_X12_record_40 : decode cX12_record 40 = .ok (.aload_n 0, 1) := by decide +kernel
theorem d_X12_record_41 : decode cX12_record 41 = .ok (.getfield 39, 3) := by decide +kernel
theorem d_X12_record_44 : decode cX12_record 44 = .ok (.sipush 240, 3) := by decide +kernel
theorem d_X12_record_47 : decode cX12_record 47 = .ok (.iload_n 1, 1) := by decide +kernel
theorem d_X12_record_48 : decode cX12_record 48 = .ok (.iconst 1, 1) := by decide +kernel
theorem d_X12_record_49 : decode cX12_record 49 = .ok (.isub, 1) := by decide +kernel
theorem d_X12_record_50 : decode cX12_record 50 = .ok (.imul, 1) := by decide +kernel
theorem d_X12_record_51 : decode cX12_record 51 = .ok (.iload_n 2, 1) := by decide +kernel
theorem d_X12_record_52 : decode cX12_record 52 = .ok (.iadd, 1) := by decide +kernel
theorem d_X12_record_53 : decode cX12_record 53 = .ok (.aload_n 0, 1) := by decide +kernel
theorem d_X12_record_54 : decode cX12_record 54 = .ok (.getfield 39, 3) := by decide +kernel
theorem d_X12_record_57 : decode cX12_record 57 = .ok (.sipush 240, 3) := by decide +kernel
theorem d_X12_record_60 : decode cX12_record 60 = .ok (.iload_n 1, 1) := by decide +kernel
theorem d_X12_record_61 : decode cX12_record 61 = .ok (.imul, 1) := by decide +kernel
theorem d_X12_record_62 : decode cX12_record 62 = .ok (.iload_n 2, 1) := by decide +kernel
theorem d_X12_record_63 : decode cX12_record 63 = .ok (.iadd, 1) := by decide +kernel
theorem d_X12_record_64 : decode cX12_record 64 = .ok (.iaload, 1) := by decide +kernel
theorem d_X12_record_65 : decode cX12_record 65 = .ok (.iastore, 1) := by decide +kernel
theorem d_X12_record_66 : decode cX12_record 66 = .ok (.iinc 2 1, 3) := by decide +kernel
theorem d_X12_record_69 : decode cX12_record 69 = .ok (.goto (-36), 3) := by decide +kernel
theorem d_X12_record_72 : decode cX12_record 72 = .ok (.iinc 1 1, 3) := by decide +kernel
theorem d_X12_record_75 : decode cX12_record 75 = .ok (.goto (-64), 3) := by decide +kernel
theorem d_X12_record_78 : decode cX12_record 78 = .ok (.aload_n 0, 1) := by decide +kernel
theorem d_X12_record_79 : decode cX12_record 79 = .ok (.dup, 1) := by decide +kernel
theorem d_X12_record_80 : decode cX12_record 80 = .ok (.getfield 128, 3) := by decide +kernel
theorem d_X12_record_83 : decode cX12_record 83 = .ok (.iconst 1, 1) := by decide +kernel
theorem d_X12_record_84 : decode cX12_record 84 = .ok (.isub, 1) := by decide +kernel
theorem d_X12_record_85 : decode cX12_record 85 = .ok (.putfield 128, 3) := by decide +kernel
theorem d_X12_record_88 : decode cX12_record 88 = .ok (.aload_n 0, 1) := by decide +kernel
theorem d_X12_record_89 : decode cX12_record 89 = .ok (.getfield 42, 3) := by decide +kernel
theorem d_X12_record_92 : decode cX12_record 92 = .ok (.aload_n 0, 1) := by decide +kernel
theorem d_X12_record_93 : decode cX12_record 93 = .ok (.getfield 128, 3) := by decide +kernel
theorem d_X12_record_96 : decode cX12_record 96 = .ok (.aload_n 0, 1) := by decide +kernel
theorem d_X12_record_97 : decode cX12_record 97 = .ok (.getfield 125, 3) := by decide +kernel
theorem d_X12_record_100 : decode cX12_record 100 = .ok (.iastore, 1) := by decide +kernel
theorem d_X12_record_101 : decode cX12_record 101 = .ok (.iconst 0, 1) := by decide +kernel
theorem d_X12_record_102 : decode cX12_record 102 = .ok (.istore_n 1, 1) := by decide +kernel
theorem d_X12_record_103 : decode cX12_record 103 = .ok (.iload_n 1, 1) := by decide +kernel
theorem d_X12_record_104 : decode cX12_record 104 = .ok (.aload_n 0, 1) := by decide +kernel
theorem d_X12_record_105 : decode cX12_record 105 = .ok (.getfield 125, 3) := by decide +kernel
theorem d_X12_record_108 : decode cX12_record 108 = .ok (.if_icmp .ge 30, 3) := by decide +kernel
theorem d_X12_record_111 : decode cX12_record 111 = .ok (.aload_n 0, 1) := by decide +kernel
theorem d_X12_record_112 : decode cX12_record 112 = .ok (.getfield 39, 3) := by decide +kernel
theorem d_X12_record_115 : decode cX12_record 115 = .ok (.sipush 240, 3) := by decide +kernel
theorem d_X12_record_118 : decode cX12_record 118 = .ok (.aload_n 0, 1) := by decide +kernel
theorem d_X12_record_119 : decode cX12_record 119 = .ok (.getfield 128, 3) := by decide +kernel
theorem d_X12_record_122 : decode cX12_record 122 = .ok (.imul, 1) := by decide +kernel
theorem d_X12_record_123 : decode cX12_record 123 = .ok (.iload_n 1, 1) := by decide +kernel
theorem d_X12_record_124 : decode cX12_record 124 = .ok (.iadd, 1) := by decide +kernel
theorem d_X12_record_125 : decode cX12_record 125 = .ok (.aload_n 0, 1) := by decide +kernel
theorem d_X12_record_126 : decode cX12_record 126 = .ok (.getfield 36, 3) := by decide +kernel
theorem d_X12_record_129 : decode cX12_record 129 = .ok (.iload_n 1, 1) := by decide +kernel
theorem d_X12_record_130 : decode cX12_record 130 = .ok (.iaload, 1) := by decide +kernel
theorem d_X12_record_131 : decode cX12_record 131 = .ok (.iastore, 1) := by decide +kernel
theorem d_X12_record_132 : decode cX12_record 132 = .ok (.iinc 1 1, 3) := by decide +kernel
theorem d_X12_record_135 : decode cX12_record 135 = .ok (.goto (-32), 3) := by decide +kernel
theorem d_X12_record_138 : decode cX12_record 138 = .ok (.aload_n 0, 1) := by decide +kernel
theorem d_X12_record_139 : decode cX12_record 139 = .ok (.dup, 1) := by decide +kernel
theorem d_X12_record_140 : decode cX12_record 140 = .ok (.getfield 128, 3) := by decide +kernel
theorem d_X12_record_143 : decode cX12_record 143 = .ok (.iconst 1, 1) := by decide +kernel
theorem d_X12_record_144 : decode cX12_record 144 = .ok (.iadd, 1) := by decide +kernel
theorem d_X12_record_145 : decode cX12_record 145 = .ok (.putfield 128, 3) := by decide +kernel
theorem d_X12_record_148 : decode cX12_record 148 = .ok (.return_, 1) := by decide +kernel
def f_X12_record_33b (F : Nat) (kb11 : Int32 → sm_M → Option (sm_M)) (kb33 : Int32 → Int32 → sm_M → Option (sm_M)) (x1 : Int32) (x2 : Int32) (M : sm_M) : Option (sm_M) := if (240 : Int32) ≤ x2 then (kb11 (x1 + 1) M) else (sm_g (sm_ib (((240 : Int32) * x1) + x2) 2880) (sm_g (sm_ib (((240 : Int32) * (x1 - (1 : Int32))) + x2) 2880) (kb33 x1 (x2 + 1) ((sm_mi M 87 (((240 : Int32) * (x1 - (1 : Int32))) + x2).toNatClampNeg (M.1 87 (((240 : Int32) * x1) + x2).toNatClampNeg))))))
set_option maxRecDepth 100000 in
set_option maxHeartbeats 4000000 in
theorem j_X12_record_33b {sk : List sm_Sh} (hx : sm_ext skM sk) (F : Nat) (kb11 : Int32 → sm_M → Option (sm_M)) (kb33 : Int32 → Int32 → sm_M → Option (sm_M)) (hkb11 : ∀ (x1 : Int32) (M : sm_M) (r : sm_M), kb11 x1 M = some r → sm_J (md_X12_record, 0, sk, .inl none, r) 11 [some (.ref 80), some (.int x1), none] [] M) (hkb33 : ∀ (x1 : Int32) (x2 : Int32) (M : sm_M) (r : sm_M), kb33 x1 x2 M = some r → sm_J (md_X12_record, 0, sk, .inl none, r) 33 [some (.ref 80), some (.int x1), some (.int x2)] [] M) : ∀ (x1 : Int32) (x2 : Int32) (M : sm_M) (r : sm_M), f_X12_record_33b F kb11 kb33 x1 x2 M = some r → sm_J (md_X12_record, 0, sk, .inl none, r) 33 [some (.ref 80), some (.int x1), some (.int x2)] [] M := by
  intro x1 x2  M r h
  unfold f_X12_record_33b at h
  refine sm_iload_n (q := 34) d_X12_record_33 rfl rfl ?_
  refine sm_sipush (q := 37) d_X12_record_34 rfl cs_240 ?_
  refine sm_icmp_ge (q := 40) (t := 72) d_X12_record_37 rfl rfl (fun c1 => ?_) (fun c1 => ?_)
  · replace h := sm_it c1 h
    refine sm_iinc (q := 75) (v := (x1 + 1)) (lt := [some (.ref 80), some (.int (x1 + 1)), some (.int x2)]) d_X12_record_72 rfl rfl (ii_1 _) (Nat.le_of_ble_eq_true rfl) rfl rfl ?_
    refine sm_goto (t := 11) d_X12_record_75 rfl ?_
    refine sm_fg [2] ?_
    exact hkb11 (x1 + 1) M _ h
  · replace h := sm_if c1 h
    refine sm_aload_n (q := 41) d_X12_record_40 rfl rfl ?_
    refine sm_getr (q := 44) d_X12_record_41 rfl fl_X12_39 (hx sx_80) rfl ?_
    refine sm_sipush (q := 47) d_X12_record_44 rfl cs_240 ?_
    refine sm_iload_n (q := 48) d_X12_record_47 rfl rfl ?_
    refine sm_iconst (q := 49) d_X12_record_48 rfl ci_1 ?_
    refine sm_isub (q := 50) d_X12_record_49 rfl ?_
    refine sm_imul (q := 51) d_X12_record_50 rfl ?_
    refine sm_iload_n (q := 52) d_X12_record_51 rfl rfl ?_
    refine sm_iadd (q := 53) d_X12_record_52 rfl ?_
    refine sm_aload_n (q := 54) d_X12_record_53 rfl rfl ?_
    refine sm_getr (q := 57) d_X12_record_54 rfl fl_X12_39 (hx sx_80) rfl ?_
    refine sm_sipush (q := 60) d_X12_record_57 rfl cs_240 ?_
    refine sm_iload_n (q := 61) d_X12_record_60 rfl rfl ?_
    refine sm_imul (q := 62) d_X12_record_61 rfl ?_
    refine sm_iload_n (q := 63) d_X12_record_62 rfl rfl ?_
    refine sm_iadd (q := 64) d_X12_record_63 rfl ?_
    obtain ⟨g2, h⟩ := sm_gt h
    refine sm_iaload (q := 65) d_X12_record_64 rfl (hx sx_87) (sm_ib_of g2) ?_
    obtain ⟨g3, h⟩ := sm_gt h
    refine sm_iastore (q := 66) d_X12_record_65 rfl (hx sx_87) (sm_ib_of g3) ?_
    refine sm_iinc (q := 69) (v := (x2 + 1)) (lt := [some (.ref 80), some (.int x1), some (.int (x2 + 1))]) d_X12_record_66 rfl rfl (ii_1 _) (Nat.le_of_ble_eq_true rfl) rfl rfl ?_
    refine sm_goto (t := 33) d_X12_record_69 rfl ?_
    exact hkb33 x1 (x2 + 1) ((sm_mi M 87 (((240 : Int32) * (x1 - (1 : Int32))) + x2).toNatClampNeg (M.1 87 (((240 : Int32) * x1) + x2).toNatClampNeg))) _ h
def f_X12_record_33 (F : Nat) (kb11 : Int32 → sm_M → Option (sm_M)) (n : Nat) : Int32 → Int32 → sm_M → Option (sm_M) := match n with
 | 0 => fun _ _ _ => none
 | n + 1 => f_X12_record_33b F kb11 (f_X12_record_33 F kb11 n)
theorem j_X12_record_33 {sk : List sm_Sh} (hx : sm_ext skM sk) (F : Nat) (kb11 : Int32 → sm_M → Option (sm_M)) (hkb11 : ∀ (x1 : Int32) (M : sm_M) (r : sm_M), kb11 x1 M = some r → sm_J (md_X12_record, 0, sk, .inl none, r) 11 [some (.ref 80), some (.int x1), none] [] M) : ∀ (n : Nat) (x1 : Int32) (x2 : Int32) (M : sm_M) (r : sm_M), f_X12_record_33 F kb11 n x1 x2 M = some r → sm_J (md_X12_record, 0, sk, .inl none, r) 33 [some (.ref 80), some (.int x1), some (.int x2)] [] M := by
  intro n
  induction n with
  | zero => intro x1 x2  M r h; exact nomatch (show (none : Option (sm_M)) = some r from h)
  | succ n ih => exact j_X12_record_33b hx F kb11 (f_X12_record_33 F kb11 n) hkb11 ih
def f_X12_record_103b (F : Nat) (kb103 : Int32 → sm_M → Option (sm_M)) (x1 : Int32) (M : sm_M) : Option (sm_M) := if (M.1 80 12) ≤ x1 then (some (sm_mi M 80 15 ((M.1 80 15) + (1 : Int32)))) else (sm_g (sm_ib x1 240) (sm_g (sm_ib (((240 : Int32) * (M.1 80 15)) + x1) 2880) (kb103 (x1 + 1) ((sm_mi M 87 (((240 : Int32) * (M.1 80 15)) + x1).toNatClampNeg (M.1 86 x1.toNatClampNeg))))))
set_option maxRecDepth 100000 in
set_option maxHeartbeats 4000000 in
theorem j_X12_record_103b {sk : List sm_Sh} (hx : sm_ext skM sk) (F : Nat) (kb103 : Int32 → sm_M → Option (sm_M)) (hkb103 : ∀ (x1 : Int32) (M : sm_M) (r : sm_M), kb103 x1 M = some r → sm_J (md_X12_record, 0, sk, .inl none, r) 103 [some (.ref 80), some (.int x1), none] [] M) : ∀ (x1 : Int32) (M : sm_M) (r : sm_M), f_X12_record_103b F kb103 x1 M = some r → sm_J (md_X12_record, 0, sk, .inl none, r) 103 [some (.ref 80), some (.int x1), none] [] M := by
  intro x1  M r h
  unfold f_X12_record_103b at h
  refine sm_iload_n (q := 104) d_X12_record_103 rfl rfl ?_
  refine sm_aload_n (q := 105) d_X12_record_104 rfl rfl ?_
  refine sm_geti (q := 108) d_X12_record_105 rfl fl_X12_125 (hx sx_80) rfl ?_
  refine sm_icmp_ge (q := 111) (t := 138) d_X12_record_108 rfl rfl (fun c1 => ?_) (fun c1 => ?_)
  · replace h := sm_it c1 h
    refine sm_aload_n (q := 139) d_X12_record_138 rfl rfl ?_
    refine sm_dup (q := 140) d_X12_record_139 rfl rfl ?_
    refine sm_geti (q := 143) d_X12_record_140 rfl fl_X12_128 (hx sx_80) rfl ?_
    refine sm_iconst (q := 144) d_X12_record_143 rfl ci_1 ?_
    refine sm_iadd (q := 145) d_X12_record_144 rfl ?_
    refine sm_puti (q := 148) d_X12_record_145 rfl fw_X12_128 (hx sx_80) rfl rfl rfl ?_
    obtain rfl := Option.some.inj h
    exact sm_vret d_X12_record_148 rfl rfl rfl
  · replace h := sm_if c1 h
    refine sm_aload_n (q := 112) d_X12_record_111 rfl rfl ?_
    refine sm_getr (q := 115) d_X12_record_112 rfl fl_X12_39 (hx sx_80) rfl ?_
    refine sm_sipush (q := 118) d_X12_record_115 rfl cs_240 ?_
    refine sm_aload_n (q := 119) d_X12_record_118 rfl rfl ?_
    refine sm_geti (q := 122) d_X12_record_119 rfl fl_X12_128 (hx sx_80) rfl ?_
    refine sm_imul (q := 123) d_X12_record_122 rfl ?_
    refine sm_iload_n (q := 124) d_X12_record_123 rfl rfl ?_
    refine sm_iadd (q := 125) d_X12_record_124 rfl ?_
    refine sm_aload_n (q := 126) d_X12_record_125 rfl rfl ?_
    refine sm_getr (q := 129) d_X12_record_126 rfl fl_X12_36 (hx sx_80) rfl ?_
    refine sm_iload_n (q := 130) d_X12_record_129 rfl rfl ?_
    obtain ⟨g2, h⟩ := sm_gt h
    refine sm_iaload (q := 131) d_X12_record_130 rfl (hx sx_86) (sm_ib_of g2) ?_
    obtain ⟨g3, h⟩ := sm_gt h
    refine sm_iastore (q := 132) d_X12_record_131 rfl (hx sx_87) (sm_ib_of g3) ?_
    refine sm_iinc (q := 135) (v := (x1 + 1)) (lt := [some (.ref 80), some (.int (x1 + 1)), none]) d_X12_record_132 rfl rfl (ii_1 _) (Nat.le_of_ble_eq_true rfl) rfl rfl ?_
    refine sm_goto (t := 103) d_X12_record_135 rfl ?_
    exact hkb103 (x1 + 1) ((sm_mi M 87 (((240 : Int32) * (M.1 80 15)) + x1).toNatClampNeg (M.1 86 x1.toNatClampNeg))) _ h
def f_X12_record_103 (F : Nat) (n : Nat) : Int32 → sm_M → Option (sm_M) := match n with
 | 0 => fun _ _ => none
 | n + 1 => f_X12_record_103b F (f_X12_record_103 F n)
theorem j_X12_record_103 {sk : List sm_Sh} (hx : sm_ext skM sk) (F : Nat) : ∀ (n : Nat) (x1 : Int32) (M : sm_M) (r : sm_M), f_X12_record_103 F n x1 M = some r → sm_J (md_X12_record, 0, sk, .inl none, r) 103 [some (.ref 80), some (.int x1), none] [] M := by
  intro n
  induction n with
  | zero => intro x1  M r h; exact nomatch (show (none : Option (sm_M)) = some r from h)
  | succ n ih => exact j_X12_record_103b hx F (f_X12_record_103 F n) ih
def f_X12_record_88 (F : Nat) (M : sm_M) : Option (sm_M) := sm_g (sm_ib (M.1 80 15) 12) (f_X12_record_103 F F (0 : Int32) ((sm_mi M 88 (M.1 80 15).toNatClampNeg (M.1 80 12))))
set_option maxRecDepth 100000 in
set_option maxHeartbeats 4000000 in
theorem j_X12_record_88 {sk : List sm_Sh} (hx : sm_ext skM sk) (F : Nat) : ∀ (M : sm_M) (r : sm_M), f_X12_record_88 F M = some r → sm_J (md_X12_record, 0, sk, .inl none, r) 88 [some (.ref 80), none, none] [] M := by
  intro   M r h
  unfold f_X12_record_88 at h
  refine sm_aload_n (q := 89) d_X12_record_88 rfl rfl ?_
  refine sm_getr (q := 92) d_X12_record_89 rfl fl_X12_42 (hx sx_80) rfl ?_
  refine sm_aload_n (q := 93) d_X12_record_92 rfl rfl ?_
  refine sm_geti (q := 96) d_X12_record_93 rfl fl_X12_128 (hx sx_80) rfl ?_
  refine sm_aload_n (q := 97) d_X12_record_96 rfl rfl ?_
  refine sm_geti (q := 100) d_X12_record_97 rfl fl_X12_125 (hx sx_80) rfl ?_
  obtain ⟨g1, h⟩ := sm_gt h
  refine sm_iastore (q := 101) d_X12_record_100 rfl (hx sx_88) (sm_ib_of g1) ?_
  refine sm_iconst (q := 102) d_X12_record_101 rfl ci_0 ?_
  refine sm_istore_n (q := 103) (lt := [some (.ref 80), some (.int (0 : Int32)), none]) d_X12_record_102 rfl (Nat.le_of_ble_eq_true rfl) rfl rfl ?_
  exact j_X12_record_103 hx F F (0 : Int32) ((sm_mi M 88 (M.1 80 15).toNatClampNeg (M.1 80 12))) _ h
def f_X12_record_11b (F : Nat) (kb11 : Int32 → sm_M → Option (sm_M)) (x1 : Int32) (M : sm_M) : Option (sm_M) := if (12 : Int32) ≤ x1 then (f_X12_record_88 F ((sm_mi M 80 15 ((M.1 80 15) - (1 : Int32))))) else (sm_g (sm_ib x1 12) (sm_g (sm_ib (x1 - (1 : Int32)) 12) (f_X12_record_33 F kb11 F x1 (0 : Int32) ((sm_mi M 88 (x1 - (1 : Int32)).toNatClampNeg (M.1 88 x1.toNatClampNeg))))))
set_option maxRecDepth 100000 in
set_option maxHeartbeats 4000000 in
theorem j_X12_record_11b {sk : List sm_Sh} (hx : sm_ext skM sk) (F : Nat) (kb11 : Int32 → sm_M → Option (sm_M)) (hkb11 : ∀ (x1 : Int32) (M : sm_M) (r : sm_M), kb11 x1 M = some r → sm_J (md_X12_record, 0, sk, .inl none, r) 11 [some (.ref 80), some (.int x1), none] [] M) : ∀ (x1 : Int32) (M : sm_M) (r : sm_M), f_X12_record_11b F kb11 x1 M = some r → sm_J (md_X12_record, 0, sk, .inl none, r) 11 [some (.ref 80), some (.int x1), none] [] M := by
  intro x1  M r h
  unfold f_X12_record_11b at h
  refine sm_iload_n (q := 12) d_X12_record_11 rfl rfl ?_
  refine sm_bipush (q := 14) d_X12_record_12 rfl cb_12 ?_
  refine sm_icmp_ge (q := 17) (t := 78) d_X12_record_14 rfl rfl (fun c1 => ?_) (fun c1 => ?_)
  · replace h := sm_it c1 h
    refine sm_aload_n (q := 79) d_X12_record_78 rfl rfl ?_
    refine sm_dup (q := 80) d_X12_record_79 rfl rfl ?_
    refine sm_geti (q := 83) d_X12_record_80 rfl fl_X12_128 (hx sx_80) rfl ?_
    refine sm_iconst (q := 84) d_X12_record_83 rfl ci_1 ?_
    refine sm_isub (q := 85) d_X12_record_84 rfl ?_
    refine sm_puti (q := 88) d_X12_record_85 rfl fw_X12_128 (hx sx_80) rfl rfl rfl ?_
    refine sm_fg [1] ?_
    exact j_X12_record_88 hx F ((sm_mi M 80 15 ((M.1 80 15) - (1 : Int32)))) _ h
  · replace h := sm_if c1 h
    refine sm_aload_n (q := 18) d_X12_record_17 rfl rfl ?_
    refine sm_getr (q := 21) d_X12_record_18 rfl fl_X12_42 (hx sx_80) rfl ?_
    refine sm_iload_n (q := 22) d_X12_record_21 rfl rfl ?_
    refine sm_iconst (q := 23) d_X12_record_22 rfl ci_1 ?_
    refine sm_isub (q := 24) d_X12_record_23 rfl ?_
    refine sm_aload_n (q := 25) d_X12_record_24 rfl rfl ?_
    refine sm_getr (q := 28) d_X12_record_25 rfl fl_X12_42 (hx sx_80) rfl ?_
    refine sm_iload_n (q := 29) d_X12_record_28 rfl rfl ?_
    obtain ⟨g2, h⟩ := sm_gt h
    refine sm_iaload (q := 30) d_X12_record_29 rfl (hx sx_88) (sm_ib_of g2) ?_
    obtain ⟨g3, h⟩ := sm_gt h
    refine sm_iastore (q := 31) d_X12_record_30 rfl (hx sx_88) (sm_ib_of g3) ?_
    refine sm_iconst (q := 32) d_X12_record_31 rfl ci_0 ?_
    refine sm_istore_n (q := 33) (lt := [some (.ref 80), some (.int x1), some (.int (0 : Int32))]) d_X12_record_32 rfl (Nat.le_of_ble_eq_true rfl) rfl rfl ?_
    exact j_X12_record_33 hx F kb11 hkb11 F x1 (0 : Int32) ((sm_mi M 88 (x1 - (1 : Int32)).toNatClampNeg (M.1 88 x1.toNatClampNeg))) _ h
def f_X12_record_11 (F : Nat) (n : Nat) : Int32 → sm_M → Option (sm_M) := match n with
 | 0 => fun _ _ => none
 | n + 1 => f_X12_record_11b F (f_X12_record_11 F n)
theorem j_X12_record_11 {sk : List sm_Sh} (hx : sm_ext skM sk) (F : Nat) : ∀ (n : Nat) (x1 : Int32) (M : sm_M) (r : sm_M), f_X12_record_11 F n x1 M = some r → sm_J (md_X12_record, 0, sk, .inl none, r) 11 [some (.ref 80), some (.int x1), none] [] M := by
  intro n
  induction n with
  | zero => intro x1  M r h; exact nomatch (show (none : Option (sm_M)) = some r from h)
  | succ n ih => exact j_X12_record_11b hx F (f_X12_record_11 F n) ih
def f_X12_record (F : Nat) (M : sm_M) : Option (sm_M) := if (M.1 80 15) = (12 : Int32) then (f_X12_record_11 F F (1 : Int32) M) else (f_X12_record_88 F M)
set_option maxRecDepth 100000 in
set_option maxHeartbeats 4000000 in
theorem j_X12_record {sk : List sm_Sh} (hx : sm_ext skM sk) (F : Nat) : ∀ (M : sm_M) (r : sm_M), f_X12_record F M = some r → sm_J (md_X12_record, 0, sk, .inl none, r) 0 [some (.ref 80), none, none] [] M := by
  intro   M r h
  unfold f_X12_record at h
  refine sm_aload_n (q := 1) d_X12_record_0 rfl rfl ?_
  refine sm_geti (q := 4) d_X12_record_1 rfl fl_X12_128 (hx sx_80) rfl ?_
  refine sm_bipush (q := 6) d_X12_record_4 rfl cb_12 ?_
  refine sm_icmp_ne (q := 9) (t := 88) d_X12_record_6 rfl rfl (fun c1 => ?_) (fun c1 => ?_)
  · replace h := sm_if c1 h
    exact j_X12_record_88 hx F M _ h
  · replace h := sm_it c1 h
    refine sm_iconst (q := 10) d_X12_record_9 rfl ci_1 ?_
    refine sm_istore_n (q := 11) (lt := [some (.ref 80), some (.int (1 : Int32)), none]) d_X12_record_10 rfl (Nat.le_of_ble_eq_true rfl) rfl rfl ?_
    exact j_X12_record_11 hx F F (1 : Int32) M _ h
theorem c_X12_record {sk : List sm_Sh} (hx : sm_ext skM sk) (F : Nat) (M : sm_M) (r : sm_M) (h : f_X12_record F M = some r) : sm_Ct yX12_record md_X12_record 0 sk [.ref 80] M (.inl none) r := sm_enter 2 pn_X12 rfl (Nat.le_of_ble_eq_true rfl) rfl (j_X12_record hx F M r h)
/-! UniversalCyclesModel.replace(I)V -/
theorem d_X12_replace_0 : decode cX12_replace 0 = .ok (.aload_n 0, 1) := by decide +kernel
theorem d_X12_replace_1 : decode cX12_replace 1 = .ok (.invokevirtual 135, 3) := by decide +kernel
theorem d_X12_replace_4 : decode cX12_replace 4 = .ok (.aload_n 0, 1) := by decide +kernel
theorem d_X12_replace_5 : decode cX12_replace 5 = .ok (.iload_n 1, 1) := by decide +kernel
theorem d_X12_replace_6 : decode cX12_replace 6 = .ok (.putfield 125, 3) := by decide +kernel
theorem d_X12_replace_9 : decode cX12_replace 9 = .ok (.iconst 0, 1) := by decide +kernel
theorem d_X12_replace_10 : decode cX12_replace 10 = .ok (.istore_n 2, 1) := by decide +kernel
theorem d_X12_replace_11 : decode cX12_replace 11 = .ok (.iload_n 2, 1) := by decide +kernel
theorem d_X12_replace_12 : decode cX12_replace 12 = .ok (.iload_n 1, 1) := by decide +kernel
theorem d_X12_replace_13 : decode cX12_replace 13 = .ok (.if_icmp .ge 21, 3) := by decide +kernel
theorem d_X12_replace_16 : decode cX12_replace 16 = .ok (.aload_n 0, 1) := by decide +kernel
theorem d_X12_replace_17 : decode cX12_replace 17 = .ok (.getfield 36, 3) := by decide +kernel
theorem d_X12_replace_20 : decode cX12_replace 20 = .ok (.iload_n 2, 1) := by decide +kernel
theorem d_X12_replace_21 : decode cX12_replace 21 = .ok (.aload_n 0, 1) := by decide +kernel
theorem d_X12_replace_22 : decode cX12_replace 22 = .ok (.getfield 45, 3) := by decide +kernel
theorem d_X12_replace_25 : decode cX12_replace 25 = .ok (.iload_n 2, 1) := by decide +kernel
theorem d_X12_replace_26 : decode cX12_replace 26 = .ok (.iaload, 1) := by decide +kernel
theorem d_X12_replace_27 : decode cX12_replace 27 = .ok (.iastore, 1) := by decide +kernel
theorem d_X12_replace_28 : decode cX12_replace 28 = .ok (.iinc 2 1, 3) := by decide +kernel
theorem d_X12_replace_31 : decode cX12_replace 31 = .ok (.goto (-20), 3) := by decide +kernel
theorem d_X12_replace_34 : decode cX12_replace 34 = .ok (.return_, 1) := by decide +kernel
def f_X12_replace_11b (F : Nat) (kb11 : Int32 → Int32 → sm_M → Option (sm_M)) (x1 : Int32) (x2 : Int32) (M : sm_M) : Option (sm_M) := if x1 ≤ x2 then (some M) else (sm_g (sm_ib x2 240) (sm_g (sm_ib x2 240) (kb11 x1 (x2 + 1) ((sm_mi M 86 x2.toNatClampNeg (M.1 89 x2.toNatClampNeg))))))
set_option maxRecDepth 100000 in
set_option maxHeartbeats 4000000 in
theorem j_X12_replace_11b {sk : List sm_Sh} (hx : sm_ext skM sk) (F : Nat) (kb11 : Int32 → Int32 → sm_M → Option (sm_M)) (hkb11 : ∀ (x1 : Int32) (x2 : Int32) (M : sm_M) (r : sm_M), kb11 x1 x2 M = some r → sm_J (md_X12_replace, 1, sk, .inl none, r) 11 [some (.ref 80), some (.int x1), some (.int x2)] [] M) : ∀ (x1 : Int32) (x2 : Int32) (M : sm_M) (r : sm_M), f_X12_replace_11b F kb11 x1 x2 M = some r → sm_J (md_X12_replace, 1, sk, .inl none, r) 11 [some (.ref 80), some (.int x1), some (.int x2)] [] M := by
  intro x1 x2  M r h
  unfold f_X12_replace_11b at h
  refine sm_iload_n (q := 12) d_X12_replace_11 rfl rfl ?_
  refine sm_iload_n (q := 13) d_X12_replace_12 rfl rfl ?_
  refine sm_icmp_ge (q := 16) (t := 34) d_X12_replace_13 rfl rfl (fun c1 => ?_) (fun c1 => ?_)
  · replace h := sm_it c1 h
    obtain rfl := Option.some.inj h
    exact sm_vret d_X12_replace_34 rfl rfl rfl
  · replace h := sm_if c1 h
    refine sm_aload_n (q := 17) d_X12_replace_16 rfl rfl ?_
    refine sm_getr (q := 20) d_X12_replace_17 rfl fl_X12_36 (hx sx_80) rfl ?_
    refine sm_iload_n (q := 21) d_X12_replace_20 rfl rfl ?_
    refine sm_aload_n (q := 22) d_X12_replace_21 rfl rfl ?_
    refine sm_getr (q := 25) d_X12_replace_22 rfl fl_X12_45 (hx sx_80) rfl ?_
    refine sm_iload_n (q := 26) d_X12_replace_25 rfl rfl ?_
    obtain ⟨g2, h⟩ := sm_gt h
    refine sm_iaload (q := 27) d_X12_replace_26 rfl (hx sx_89) (sm_ib_of g2) ?_
    obtain ⟨g3, h⟩ := sm_gt h
    refine sm_iastore (q := 28) d_X12_replace_27 rfl (hx sx_86) (sm_ib_of g3) ?_
    refine sm_iinc (q := 31) (v := (x2 + 1)) (lt := [some (.ref 80), some (.int x1), some (.int (x2 + 1))]) d_X12_replace_28 rfl rfl (ii_1 _) (Nat.le_of_ble_eq_true rfl) rfl rfl ?_
    refine sm_goto (t := 11) d_X12_replace_31 rfl ?_
    exact hkb11 x1 (x2 + 1) ((sm_mi M 86 x2.toNatClampNeg (M.1 89 x2.toNatClampNeg))) _ h
def f_X12_replace_11 (F : Nat) (n : Nat) : Int32 → Int32 → sm_M → Option (sm_M) := match n with
 | 0 => fun _ _ _ => none
 | n + 1 => f_X12_replace_11b F (f_X12_replace_11 F n)
theorem j_X12_replace_11 {sk : List sm_Sh} (hx : sm_ext skM sk) (F : Nat) : ∀ (n : Nat) (x1 : Int32) (x2 : Int32) (M : sm_M) (r : sm_M), f_X12_replace_11 F n x1 x2 M = some r → sm_J (md_X12_replace, 1, sk, .inl none, r) 11 [some (.ref 80), some (.int x1), some (.int x2)] [] M := by
  intro n
  induction n with
  | zero => intro x1 x2  M r h; exact nomatch (show (none : Option (sm_M)) = some r from h)
  | succ n ih => exact j_X12_replace_11b hx F (f_X12_replace_11 F n) ih
def f_X12_replace (F : Nat) (x1 : Int32) (M : sm_M) : Option (sm_M) := (f_X12_record F M).bind fun q1 => f_X12_replace_11 F F x1 (0 : Int32) ((sm_mi q1 80 12 x1))
set_option maxRecDepth 100000 in
set_option maxHeartbeats 4000000 in
theorem j_X12_replace {sk : List sm_Sh} (hx : sm_ext skM sk) (F : Nat) : ∀ (x1 : Int32) (M : sm_M) (r : sm_M), f_X12_replace F x1 M = some r → sm_J (md_X12_replace, 1, sk, .inl none, r) 0 [some (.ref 80), some (.int x1), none] [] M := by
  intro x1  M r h
  unfold f_X12_replace at h
  refine sm_aload_n (q := 1) d_X12_replace_0 rfl rfl ?_
  obtain ⟨q1, e1, h⟩ := sm_bd h
  refine sm_callV (q := 4) (d' := 0) [] [] d_X12_replace_1 rfl lk_X12_135 (hx sx_80) rfl rfl rfl (Nat.le_of_ble_eq_true rfl) (Nat.le_of_ble_eq_true rfl) (c_X12_record hx F M _ e1) (st9 := []) rfl ?_
  refine sm_aload_n (q := 5) d_X12_replace_4 rfl rfl ?_
  refine sm_iload_n (q := 6) d_X12_replace_5 rfl rfl ?_
  refine sm_puti (q := 9) d_X12_replace_6 rfl fw_X12_125 (hx sx_80) rfl rfl rfl ?_
  refine sm_iconst (q := 10) d_X12_replace_9 rfl ci_0 ?_
  refine sm_istore_n (q := 11) (lt := [some (.ref 80), some (.int x1), some (.int (0 : Int32))]) d_X12_replace_10 rfl (Nat.le_of_ble_eq_true rfl) rfl rfl ?_
  exact j_X12_replace_11 hx F F x1 (0 : Int32) ((sm_mi q1 80 12 x1)) _ h
theorem c_X12_replace {sk : List sm_Sh} (hx : sm_ext skM sk) (F : Nat) (x1 : Int32) (M : sm_M) (r : sm_M) (h : f_X12_replace F x1 M = some r) : sm_Ct yX12_replace md_X12_replace 1 sk [.ref 80, .int x1] M (.inl none) r := sm_enter 1 pn_X12 rfl (Nat.le_of_ble_eq_true rfl) rfl (j_X12_replace hx F x1 M r h)
/-! UniversalCyclesModel.append(I)I -/
theorem d_X12_append_0 : decode cX12_append 0 = .ok (.aload_n 0, 1) := by decide +kernel
theorem d_X12_append_1 : decode cX12_append 1 = .ok (.iconst 0, 1) := by decide +kernel
theorem d_X12_append_2 : decode cX12_append 2 = .ok (.putfield 1, 3) := by decide +kernel
theorem d_X12_append_5 : decode cX12_append 5 = .ok (.aload_n 0, 1) := by decide +kernel
theorem d_X12_append_6 : decode cX12_append 6 = .ok (.iload_n 1, 1) := by decide +kernel
theorem d_X12_append_7 : decode cX12_append 7 = .ok (.invokevirtual 138, 3) := by decide +kernel
theorem d_X12_append_10 : decode cX12_append 10 = .ok (.ifCond .ne 9, 3) := by decide +kernel
theorem d_X12_append_13 : decode cX12_append 13 = .ok (.aload_n 0, 1) := by decide +kernel
theorem d_X12_append_14 : decode cX12_append 14 = .ok (.iconst 1, 1) := by decide +kernel
theorem d_X12_append_15 : decode cX12_append 15 = .ok (.invokevirtual 122, 3) := by decide +kernel
theorem d_X12_append_18 : decode cX12_append 18 = .ok (.ireturn, 1) := by decide +kernel
theorem d_X12_append_19 : decode cX12_append 19 = .ok (.aload_n 0, 1) := by decide +kernel
theorem d_X12_append_20 : decode cX12_append 20 = .ok (.getfield 125, 3) := by decide +kernel
theorem d_X12_append_23 : decode cX12_append 23 = .ok (.sipush 240, 3) := by decide +kernel
theorem d_X12_append_26 : decode cX12_append 26 = .ok (.if_icmp .ne 9, 3) := by decide +kernel
theorem d_X12_append_29 : decode cX12_append 29 = .ok (.aload_n 0, 1) := by decide +kernel
theorem d_X12_append_30 : decode cX12_append 30 = .ok (.iconst 2, 1) := by decide +kernel
theorem d_X12_append_31 : decode cX12_append 31 = .ok (.invokevirtual 122, 3) := by decide +kernel
theorem d_X12_append_34 : decode cX12_append 34 = .ok (.ireturn, 1) := by decide +kernel
theorem d_X12_append_35 : decode cX12_append 35 = .ok (.aload_n 0, 1) := by decide +kernel
theorem d_X12_append_36 : decode cX12_append 36 = .ok (.invokevirtual 135, 3) := by decide +kernel
theorem d_X12_append_39 : decode cX12_append 39 = .ok (.aload_n 0, 1) := by decide +kernel
theorem d_X12_append_40 : decode cX12_append 40 = .ok (.getfield 36, 3) := by decide +kernel
theorem d_X12_append_43 : decode cX12_append 43 = .ok (.aload_n 0, 1) := by decide +kernel
theorem d_X12_append_44 : decode cX12_append 44 = .ok (.getfield 125, 3) := by decide +kernel
theorem d_X12_append_47 : decode cX12_append 47 = .ok (.iload_n 1, 1) := by decide +kernel
theorem d_X12_append_48 : decode cX12_append 48 = .ok (.iastore, 1) := by decide +kernel
theorem d_X12_append_49 : decode cX12_append 49 = .ok (.aload_n 0, 1) := by decide +kernel
theorem d_X12_append_50 : decode cX12_append 50 = .ok (.dup, 1) := by decide +kernel
theorem d_X12_append_51 : decode cX12_append 51 = .ok (.getfield 125, 3) := by decide +kernel
theorem d_X12_append_54 : decode cX12_append 54 = .ok (.iconst 1, 1) := by decide +kernel
theorem d_X12_append_55 : decode cX12_append 55 = .ok (.iadd, 1) := by decide +kernel
theorem d_X12_append_56 : decode cX12_append 56 = .ok (.putfield 125, 3) := by decide +kernel
theorem d_X12_append_59 : decode cX12_append 59 = .ok (.aload_n 0, 1) := by decide +kernel
theorem d_X12_append_60 : decode cX12_append 60 = .ok (.getfield 125, 3) := by decide +kernel
theorem d_X12_append_63 : decode cX12_append 63 = .ok (.ireturn, 1) := by decide +kernel
def f_X12_append (F : Nat) (x1 : Int32) (M : sm_M) : Option (Int32 × sm_M) := (f_X12_isSymbol F x1 (sm_mi M 80 0 (0 : Int32))).bind fun q1 => if q1 = 0 then ((f_X12_fail F (1 : Int32) (sm_mi M 80 0 (0 : Int32))).bind fun q7 => some (q7.1, q7.2)) else (if (((sm_mi M 80 0 (0 : Int32))).1 80 12) = (240 : Int32) then ((f_X12_fail F (2 : Int32) (sm_mi M 80 0 (0 : Int32))).bind fun q6 => some (q6.1, q6.2)) else ((f_X12_record F (sm_mi M 80 0 (0 : Int32))).bind fun q4 => sm_g (sm_ib (q4.1 80 12) 240) (some ((((sm_mi (sm_mi q4 86 (q4.1 80 12).toNatClampNeg x1) 80 12 ((((sm_mi q4 86 (q4.1 80 12).toNatClampNeg x1)).1 80 12) + (1 : Int32)))).1 80 12), (sm_mi (sm_mi q4 86 (q4.1 80 12).toNatClampNeg x1) 80 12 ((((sm_mi q4 86 (q4.1 80 12).toNatClampNeg x1)).1 80 12) + (1 : Int32)))))))
set_option maxRecDepth 100000 in
set_option maxHeartbeats 4000000 in
theorem j_X12_append {sk : List sm_Sh} (hx : sm_ext skM sk) (F : Nat) : ∀ (x1 : Int32) (M : sm_M) (r : Int32 × sm_M), f_X12_append F x1 M = some r → sm_J (md_X12_append, 2, sk, .inl (some (.int r.1)), r.2) 0 [some (.ref 80), some (.int x1)] [] M := by
  intro x1  M r h
  unfold f_X12_append at h
  refine sm_aload_n (q := 1) d_X12_append_0 rfl rfl ?_
  refine sm_iconst (q := 2) d_X12_append_1 rfl ci_0 ?_
  refine sm_puti (q := 5) d_X12_append_2 rfl fw_X12_1 (hx sx_80) rfl rfl rfl ?_
  refine sm_aload_n (q := 6) d_X12_append_5 rfl rfl ?_
  refine sm_iload_n (q := 7) d_X12_append_6 rfl rfl ?_
  obtain ⟨q1, e1, h⟩ := sm_bd h
  refine sm_callV (q := 10) (d' := 1) [] [.int x1] d_X12_append_7 rfl lk_X12_138 (hx sx_80) rfl rfl rfl (Nat.le_of_ble_eq_true rfl) (Nat.le_of_ble_eq_true rfl) (c_X12_isSymbol hx F x1 (sm_mi M 80 0 (0 : Int32)) _ e1) (st9 := [.int q1]) rfl ?_
  refine sm_if_ne (q := 13) (t := 19) d_X12_append_10 rfl rfl (fun c2 => ?_) (fun c2 => ?_)
  · replace h := sm_if c2 h
    refine sm_aload_n (q := 20) d_X12_append_19 rfl rfl ?_
    refine sm_geti (q := 23) d_X12_append_20 rfl fl_X12_125 (hx sx_80) rfl ?_
    refine sm_sipush (q := 26) d_X12_append_23 rfl cs_240 ?_
    refine sm_icmp_ne (q := 29) (t := 35) d_X12_append_26 rfl rfl (fun c3 => ?_) (fun c3 => ?_)
    · replace h := sm_if c3 h
      refine sm_aload_n (q := 36) d_X12_append_35 rfl rfl ?_
      obtain ⟨q4, e4, h⟩ := sm_bd h
      refine sm_callV (q := 39) (d' := 0) [] [] d_X12_append_36 rfl lk_X12_135 (hx sx_80) rfl rfl rfl (Nat.le_of_ble_eq_true rfl) (Nat.le_of_ble_eq_true rfl) (c_X12_record hx F (sm_mi M 80 0 (0 : Int32)) _ e4) (st9 := []) rfl ?_
      refine sm_aload_n (q := 40) d_X12_append_39 rfl rfl ?_
      refine sm_getr (q := 43) d_X12_append_40 rfl fl_X12_36 (hx sx_80) rfl ?_
      refine sm_aload_n (q := 44) d_X12_append_43 rfl rfl ?_
      refine sm_geti (q := 47) d_X12_append_44 rfl fl_X12_125 (hx sx_80) rfl ?_
      refine sm_iload_n (q := 48) d_X12_append_47 rfl rfl ?_
      obtain ⟨g5, h⟩ := sm_gt h
      refine sm_iastore (q := 49) d_X12_append_48 rfl (hx sx_86) (sm_ib_of g5) ?_
      refine sm_aload_n (q := 50) d_X12_append_49 rfl rfl ?_
      refine sm_dup (q := 51) d_X12_append_50 rfl rfl ?_
      refine sm_geti (q := 54) d_X12_append_51 rfl fl_X12_125 (hx sx_80) rfl ?_
      refine sm_iconst (q := 55) d_X12_append_54 rfl ci_1 ?_
      refine sm_iadd (q := 56) d_X12_append_55 rfl ?_
      refine sm_puti (q := 59) d_X12_append_56 rfl fw_X12_125 (hx sx_80) rfl rfl rfl ?_
      refine sm_aload_n (q := 60) d_X12_append_59 rfl rfl ?_
      refine sm_geti (q := 63) d_X12_append_60 rfl fl_X12_125 (hx sx_80) rfl ?_
      obtain rfl := Option.some.inj h
      exact sm_iret d_X12_append_63 rfl rfl rfl rfl
    · replace h := sm_it c3 h
      refine sm_aload_n (q := 30) d_X12_append_29 rfl rfl ?_
      refine sm_iconst (q := 31) d_X12_append_30 rfl ci_2 ?_
      obtain ⟨q6, e6, h⟩ := sm_bd h
      refine sm_callV (q := 34) (d' := 0) [] [.int (2 : Int32)] d_X12_append_31 rfl lk_X12_122 (hx sx_80) rfl rfl rfl (Nat.le_of_ble_eq_true rfl) (Nat.le_of_ble_eq_true rfl) (c_X12_fail hx F (2 : Int32) (sm_mi M 80 0 (0 : Int32)) _ e6) (st9 := [.int q6.1]) rfl ?_
      obtain rfl := Option.some.inj h
      exact sm_iret d_X12_append_34 rfl rfl rfl rfl
  · replace h := sm_it c2 h
    refine sm_aload_n (q := 14) d_X12_append_13 rfl rfl ?_
    refine sm_iconst (q := 15) d_X12_append_14 rfl ci_1 ?_
    obtain ⟨q7, e7, h⟩ := sm_bd h
    refine sm_callV (q := 18) (d' := 0) [] [.int (1 : Int32)] d_X12_append_15 rfl lk_X12_122 (hx sx_80) rfl rfl rfl (Nat.le_of_ble_eq_true rfl) (Nat.le_of_ble_eq_true rfl) (c_X12_fail hx F (1 : Int32) (sm_mi M 80 0 (0 : Int32)) _ e7) (st9 := [.int q7.1]) rfl ?_
    obtain rfl := Option.some.inj h
    exact sm_iret d_X12_append_18 rfl rfl rfl rfl
theorem c_X12_append {sk : List sm_Sh} (hx : sm_ext skM sk) (F : Nat) (x1 : Int32) (M : sm_M) (r : Int32 × sm_M) (h : f_X12_append F x1 M = some r) : sm_Ct yX12_append md_X12_append 2 sk [.ref 80, .int x1] M (.inl (some (.int r.1))) r.2 := sm_enter 0 pn_X12 rfl (Nat.le_of_ble_eq_true rfl) rfl (j_X12_append hx F x1 M r h)
/-! UniversalCyclesModel.setSymbol(II)I -/
theorem d_X12_setSymbol_0 : decode cX12_setSymbol 0 = .ok (.aload_n 0, 1) := by decide +kernel
theorem d_X12_setSymbol_1 : decode cX12_setSymbol 1 = .ok (.iconst 0, 1) := by decide +kernel
theorem d_X12_setSymbol_2 : decode cX12_setSymbol 2 = .ok (.putfield 1, 3) := by decide +kernel
theorem d_X12_setSymbol_5 : decode cX12_setSymbol 5 = .ok (.aload_n 0, 1) := by decide +kernel
theorem d_X12_setSymbol_6 : decode cX12_setSymbol 6 = .ok (.iload_n 1, 1) := by decide +kernel
theorem d_X12_setSymbol_7 : decode cX12_setSymbol 7 = .ok (.invokevirtual 141, 3) := by decide +kernel
theorem d_X12_setSymbol_10 : decode cX12_setSymbol 10 = .ok (.ifCond .ne 9, 3) := by decide +kernel
theorem d_X12_setSymbol_13 : decode cX12_setSymbol 13 = .ok (.aload_n 0, 1) := by decide +kernel
theorem d_X12_setSymbol_14 : decode cX12_setSymbol 14 = .ok (.iconst 1, 1) := by decide +kernel
theorem d_X12_setSymbol_15 : decode cX12_setSymbol 15 = .ok (.invokevirtual 122, 3) := by decide +kernel
theorem d_X12_setSymbol_18 : decode cX12_setSymbol 18 = .ok (.ireturn, 1) := by decide +kernel
theorem d_X12_setSymbol_19 : decode cX12_setSymbol 19 = .ok (.aload_n 0, 1) := by decide +kernel
theorem d_X12_setSymbol_20 : decode cX12_setSymbol 20 = .ok (.iload_n 2, 1) := by decide +kernel
theorem d_X12_setSymbol_21 : decode cX12_setSymbol 21 = .ok (.invokevirtual 138, 3) := by decide +kernel
theorem d_X12_setSymbol_24 : decode cX12_setSymbol 24 = .ok (.ifCond .ne 9, 3) := by decide +kernel
theorem d_X12_setSymbol_27 : decode cX12_setSymbol 27 = .ok (.aload_n 0, 1) := by decide +kernel
theorem d_X12_setSymbol_28 : decode cX12_setSymbol 28 = .ok (.iconst 2, 1) := by decide +kernel
theorem d_X12_setSymbol_29 : decode cX12_setSymbol 29 = .ok (.invokevirtual 122, 3) := by decide +kernel
theorem d_X12_setSymbol_32 : decode cX12_setSymbol 32 = .ok (.ireturn, 1) := by decide +kernel
theorem d_X12_setSymbol_33 : decode cX12_setSymbol 33 = .ok (.aload_n 0, 1) := by decide +kernel
theorem d_X12_setSymbol_34 : decode cX12_setSymbol 34 = .ok (.getfield 36, 3) := by decide +kernel
theorem d_X12_setSymbol_37 : decode cX12_setSymbol 37 = .ok (.iload_n 1, 1) := by decide +kernel
theorem d_X12_setSymbol_38 : decode cX12_setSymbol 38 = .ok (.iaload, 1) := by decide +kernel
theorem d_X12_setSymbol_39 : decode cX12_setSymbol 39 = .ok (.istore_n 3, 1) := by decide +kernel
theorem d_X12_setSymbol_40 : decode cX12_setSymbol 40 = .ok (.aload_n 0, 1) := by decide +kernel
theorem d_X12_setSymbol_41 : decode cX12_setSymbol 41 = .ok (.invokevirtual 135, 3) := by decide +kernel
theorem d_X12_setSymbol_44 : decode cX12_setSymbol 44 = .ok (.aload_n 0, 1) := by decide +kernel
theorem d_X12_setSymbol_45 : decode cX12_setSymbol 45 = .ok (.getfield 36, 3) := by decide +kernel
theorem d_X12_setSymbol_48 : decode cX12_setSymbol 48 = .ok (.iload_n 1, 1) := by decide +kernel
theorem d_X12_setSymbol_49 : decode cX12_setSymbol 49 = .ok (.iload_n 2, 1) := by decide +kernel
theorem d_X12_setSymbol_50 : decode cX12_setSymbol 50 = .ok (.iastore, 1) := by decide +kernel
theorem d_X12_setSymbol_51 : decode cX12_setSymbol 51 = .ok (.iload_n 3, 1) := by decide +kernel
theorem d_X12_setSymbol_52 : decode cX12_setSymbol 52 = .ok (.ireturn, 1) := by decide +kernel
def f_X12_setSymbol (F : Nat) (x1 : Int32) (x2 : Int32) (M : sm_M) : Option (Int32 × sm_M) := (f_X12_isPosition F x1 (sm_mi M 80 0 (0 : Int32))).bind fun q1 => if q1 = 0 then ((f_X12_fail F (1 : Int32) (sm_mi M 80 0 (0 : Int32))).bind fun q9 => some (q9.1, q9.2)) else ((f_X12_isSymbol F x2 (sm_mi M 80 0 (0 : Int32))).bind fun q3 => if q3 = 0 then ((f_X12_fail F (2 : Int32) (sm_mi M 80 0 (0 : Int32))).bind fun q8 => some (q8.1, q8.2)) else (sm_g (sm_ib x1 240) ((f_X12_record F (sm_mi M 80 0 (0 : Int32))).bind fun q6 => sm_g (sm_ib x1 240) (some (((sm_mi M 80 0 (0 : Int32)).1 86 x1.toNatClampNeg), (sm_mi q6 86 x1.toNatClampNeg x2))))))
set_option maxRecDepth 100000 in
set_option maxHeartbeats 4000000 in
theorem j_X12_setSymbol {sk : List sm_Sh} (hx : sm_ext skM sk) (F : Nat) : ∀ (x1 : Int32) (x2 : Int32) (M : sm_M) (r : Int32 × sm_M), f_X12_setSymbol F x1 x2 M = some r → sm_J (md_X12_setSymbol, 2, sk, .inl (some (.int r.1)), r.2) 0 [some (.ref 80), some (.int x1), some (.int x2), none] [] M := by
  intro x1 x2  M r h
  unfold f_X12_setSymbol at h
  refine sm_aload_n (q := 1) d_X12_setSymbol_0 rfl rfl ?_
  refine sm_iconst (q := 2) d_X12_setSymbol_1 rfl ci_0 ?_
  refine sm_puti (q := 5) d_X12_setSymbol_2 rfl fw_X12_1 (hx sx_80) rfl rfl rfl ?_
  refine sm_aload_n (q := 6) d_X12_setSymbol_5 rfl rfl ?_
  refine sm_iload_n (q := 7) d_X12_setSymbol_6 rfl rfl ?_
  obtain ⟨q1, e1, h⟩ := sm_bd h
  refine sm_callV (q := 10) (d' := 1) [] [.int x1] d_X12_setSymbol_7 rfl lk_X12_141 (hx sx_80) rfl rfl rfl (Nat.le_of_ble_eq_true rfl) (Nat.le_of_ble_eq_true rfl) (c_X12_isPosition hx F x1 (sm_mi M 80 0 (0 : Int32)) _ e1) (st9 := [.int q1]) rfl ?_
  refine sm_if_ne (q := 13) (t := 19) d_X12_setSymbol_10 rfl rfl (fun c2 => ?_) (fun c2 => ?_)
  · replace h := sm_if c2 h
    refine sm_aload_n (q := 20) d_X12_setSymbol_19 rfl rfl ?_
    refine sm_iload_n (q := 21) d_X12_setSymbol_20 rfl rfl ?_
    obtain ⟨q3, e3, h⟩ := sm_bd h
    refine sm_callV (q := 24) (d' := 1) [] [.int x2] d_X12_setSymbol_21 rfl lk_X12_138 (hx sx_80) rfl rfl rfl (Nat.le_of_ble_eq_true rfl) (Nat.le_of_ble_eq_true rfl) (c_X12_isSymbol hx F x2 (sm_mi M 80 0 (0 : Int32)) _ e3) (st9 := [.int q3]) rfl ?_
    refine sm_if_ne (q := 27) (t := 33) d_X12_setSymbol_24 rfl rfl (fun c4 => ?_) (fun c4 => ?_)
    · replace h := sm_if c4 h
      refine sm_aload_n (q := 34) d_X12_setSymbol_33 rfl rfl ?_
      refine sm_getr (q := 37) d_X12_setSymbol_34 rfl fl_X12_36 (hx sx_80) rfl ?_
      refine sm_iload_n (q := 38) d_X12_setSymbol_37 rfl rfl ?_
      obtain ⟨g5, h⟩ := sm_gt h
      refine sm_iaload (q := 39) d_X12_setSymbol_38 rfl (hx sx_86) (sm_ib_of g5) ?_
      refine sm_istore_n (q := 40) (lt := [some (.ref 80), some (.int x1), some (.int x2), some (.int ((sm_mi M 80 0 (0 : Int32)).1 86 x1.toNatClampNeg))]) d_X12_setSymbol_39 rfl (Nat.le_of_ble_eq_true rfl) rfl rfl ?_
      refine sm_aload_n (q := 41) d_X12_setSymbol_40 rfl rfl ?_
      obtain ⟨q6, e6, h⟩ := sm_bd h
      refine sm_callV (q := 44) (d' := 0) [] [] d_X12_setSymbol_41 rfl lk_X12_135 (hx sx_80) rfl rfl rfl (Nat.le_of_ble_eq_true rfl) (Nat.le_of_ble_eq_true rfl) (c_X12_record hx F (sm_mi M 80 0 (0 : Int32)) _ e6) (st9 := []) rfl ?_
      refine sm_aload_n (q := 45) d_X12_setSymbol_44 rfl rfl ?_
      refine sm_getr (q := 48) d_X12_setSymbol_45 rfl fl_X12_36 (hx sx_80) rfl ?_
      refine sm_iload_n (q := 49) d_X12_setSymbol_48 rfl rfl ?_
      refine sm_iload_n (q := 50) d_X12_setSymbol_49 rfl rfl ?_
      obtain ⟨g7, h⟩ := sm_gt h
      refine sm_iastore (q := 51) d_X12_setSymbol_50 rfl (hx sx_86) (sm_ib_of g7) ?_
      refine sm_iload_n (q := 52) d_X12_setSymbol_51 rfl rfl ?_
      obtain rfl := Option.some.inj h
      exact sm_iret d_X12_setSymbol_52 rfl rfl rfl rfl
    · replace h := sm_it c4 h
      refine sm_aload_n (q := 28) d_X12_setSymbol_27 rfl rfl ?_
      refine sm_iconst (q := 29) d_X12_setSymbol_28 rfl ci_2 ?_
      obtain ⟨q8, e8, h⟩ := sm_bd h
      refine sm_callV (q := 32) (d' := 0) [] [.int (2 : Int32)] d_X12_setSymbol_29 rfl lk_X12_122 (hx sx_80) rfl rfl rfl (Nat.le_of_ble_eq_true rfl) (Nat.le_of_ble_eq_true rfl) (c_X12_fail hx F (2 : Int32) (sm_mi M 80 0 (0 : Int32)) _ e8) (st9 := [.int q8.1]) rfl ?_
      obtain rfl := Option.some.inj h
      exact sm_iret d_X12_setSymbol_32 rfl rfl rfl rfl
  · replace h := sm_it c2 h
    refine sm_aload_n (q := 14) d_X12_setSymbol_13 rfl rfl ?_
    refine sm_iconst (q := 15) d_X12_setSymbol_14 rfl ci_1 ?_
    obtain ⟨q9, e9, h⟩ := sm_bd h
    refine sm_callV (q := 18) (d' := 0) [] [.int (1 : Int32)] d_X12_setSymbol_15 rfl lk_X12_122 (hx sx_80) rfl rfl rfl (Nat.le_of_ble_eq_true rfl) (Nat.le_of_ble_eq_true rfl) (c_X12_fail hx F (1 : Int32) (sm_mi M 80 0 (0 : Int32)) _ e9) (st9 := [.int q9.1]) rfl ?_
    obtain rfl := Option.some.inj h
    exact sm_iret d_X12_setSymbol_18 rfl rfl rfl rfl
theorem c_X12_setSymbol {sk : List sm_Sh} (hx : sm_ext skM sk) (F : Nat) (x1 : Int32) (x2 : Int32) (M : sm_M) (r : Int32 × sm_M) (h : f_X12_setSymbol F x1 x2 M = some r) : sm_Ct yX12_setSymbol md_X12_setSymbol 2 sk [.ref 80, .int x1, .int x2] M (.inl (some (.int r.1))) r.2 := sm_enter 1 pn_X12 rfl (Nat.le_of_ble_eq_true rfl) rfl (j_X12_setSymbol hx F x1 x2 M r h)
/-! UniversalCyclesModel.symbolAt(I)I -/
theorem d_X12_symbolAt_0 : decode cX12_symbolAt 0 = .ok (.aload_n 0, 1) := by decide +kernel
theorem d_X12_symbolAt_1 : decode cX12_symbolAt 1 = .ok (.iconst 0, 1) := by decide +kernel
theorem d_X12_symbolAt_2 : decode cX12_symbolAt 2 = .ok (.putfield 1, 3) := by decide +kernel
theorem d_X12_symbolAt_5 : decode cX12_symbolAt 5 = .ok (.aload_n 0, 1) := by decide +kernel
theorem d_X12_symbolAt_6 : decode cX12_symbolAt 6 = .ok (.iload_n 1, 1) := by decide +kernel
theorem d_X12_symbolAt_7 : decode cX12_symbolAt 7 = .ok (.invokevirtual 141, 3) := by decide +kernel
theorem d_X12_symbolAt_10 : decode cX12_symbolAt 10 = .ok (.ifCond .eq 12, 3) := by decide +kernel
theorem d_X12_symbolAt_13 : decode cX12_symbolAt 13 = .ok (.aload_n 0, 1) := by decide +kernel
theorem d_X12_symbolAt_14 : decode cX12_symbolAt 14 = .ok (.getfield 36, 3) := by decide +kernel
theorem d_X12_symbolAt_17 : decode cX12_symbolAt 17 = .ok (.iload_n 1, 1) := by decide +kernel
theorem d_X12_symbolAt_18 : decode cX12_symbolAt 18 = .ok (.iaload, 1) := by decide +kernel
theorem d_X12_symbolAt_19 : decode cX12_symbolAt 19 = .ok (.goto 8, 3) := by decide +kernel
theorem d_X12_symbolAt_22 : decode cX12_symbolAt 22 = .ok (.aload_n 0, 1) := by decide +kernel
theorem d_X12_symbolAt_23 : decode cX12_symbolAt 23 = .ok (.iconst 1, 1) := by decide +kernel
theorem d_X12_symbolAt_24 : decode cX12_symbolAt 24 = .ok (.invokevirtual 122, 3) := by decide +kernel
theorem d_X12_symbolAt_27 : decode cX12_symbolAt 27 = .ok (.ireturn, 1) := by decide +kernel
def f_X12_symbolAt_27 (F : Nat) (y0 : Int32) (M : sm_M) : Option (Int32 × sm_M) := some (y0, M)
set_option maxRecDepth 100000 in
set_option maxHeartbeats 4000000 in
theorem j_X12_symbolAt_27 {sk : List sm_Sh} (hx : sm_ext skM sk) (F : Nat) : ∀ (y0 : Int32) (M : sm_M) (r : Int32 × sm_M), f_X12_symbolAt_27 F y0 M = some r → sm_J (md_X12_symbolAt, 2, sk, .inl (some (.int r.1)), r.2) 27 [none, none] [.int y0] M := by
  intro y0  M r h
  unfold f_X12_symbolAt_27 at h
  obtain rfl := Option.some.inj h
  exact sm_iret d_X12_symbolAt_27 rfl rfl rfl rfl
def f_X12_symbolAt (F : Nat) (x1 : Int32) (M : sm_M) : Option (Int32 × sm_M) := (f_X12_isPosition F x1 (sm_mi M 80 0 (0 : Int32))).bind fun q1 => if q1 = 0 then ((f_X12_fail F (1 : Int32) (sm_mi M 80 0 (0 : Int32))).bind fun q3 => f_X12_symbolAt_27 F q3.1 q3.2) else (sm_g (sm_ib x1 240) (f_X12_symbolAt_27 F ((sm_mi M 80 0 (0 : Int32)).1 86 x1.toNatClampNeg) ((sm_mi M 80 0 (0 : Int32)))))
set_option maxRecDepth 100000 in
set_option maxHeartbeats 4000000 in
theorem j_X12_symbolAt {sk : List sm_Sh} (hx : sm_ext skM sk) (F : Nat) : ∀ (x1 : Int32) (M : sm_M) (r : Int32 × sm_M), f_X12_symbolAt F x1 M = some r → sm_J (md_X12_symbolAt, 2, sk, .inl (some (.int r.1)), r.2) 0 [some (.ref 80), some (.int x1)] [] M := by
  intro x1  M r h
  unfold f_X12_symbolAt at h
  refine sm_aload_n (q := 1) d_X12_symbolAt_0 rfl rfl ?_
  refine sm_iconst (q := 2) d_X12_symbolAt_1 rfl ci_0 ?_
  refine sm_puti (q := 5) d_X12_symbolAt_2 rfl fw_X12_1 (hx sx_80) rfl rfl rfl ?_
  refine sm_aload_n (q := 6) d_X12_symbolAt_5 rfl rfl ?_
  refine sm_iload_n (q := 7) d_X12_symbolAt_6 rfl rfl ?_
  obtain ⟨q1, e1, h⟩ := sm_bd h
  refine sm_callV (q := 10) (d' := 1) [] [.int x1] d_X12_symbolAt_7 rfl lk_X12_141 (hx sx_80) rfl rfl rfl (Nat.le_of_ble_eq_true rfl) (Nat.le_of_ble_eq_true rfl) (c_X12_isPosition hx F x1 (sm_mi M 80 0 (0 : Int32)) _ e1) (st9 := [.int q1]) rfl ?_
  refine sm_if_eq (q := 13) (t := 22) d_X12_symbolAt_10 rfl rfl (fun c2 => ?_) (fun c2 => ?_)
  · replace h := sm_it c2 h
    refine sm_aload_n (q := 23) d_X12_symbolAt_22 rfl rfl ?_
    refine sm_iconst (q := 24) d_X12_symbolAt_23 rfl ci_1 ?_
    obtain ⟨q3, e3, h⟩ := sm_bd h
    refine sm_callV (q := 27) (d' := 0) [] [.int (1 : Int32)] d_X12_symbolAt_24 rfl lk_X12_122 (hx sx_80) rfl rfl rfl (Nat.le_of_ble_eq_true rfl) (Nat.le_of_ble_eq_true rfl) (c_X12_fail hx F (1 : Int32) (sm_mi M 80 0 (0 : Int32)) _ e3) (st9 := [.int q3.1]) rfl ?_
    refine sm_fg [0, 1] ?_
    exact j_X12_symbolAt_27 hx F q3.1 q3.2 _ h
  · replace h := sm_if c2 h
    refine sm_aload_n (q := 14) d_X12_symbolAt_13 rfl rfl ?_
    refine sm_getr (q := 17) d_X12_symbolAt_14 rfl fl_X12_36 (hx sx_80) rfl ?_
    refine sm_iload_n (q := 18) d_X12_symbolAt_17 rfl rfl ?_
    obtain ⟨g4, h⟩ := sm_gt h
    refine sm_iaload (q := 19) d_X12_symbolAt_18 rfl (hx sx_86) (sm_ib_of g4) ?_
    refine sm_goto (t := 27) d_X12_symbolAt_19 rfl ?_
    refine sm_fg [0, 1] ?_
    exact j_X12_symbolAt_27 hx F ((sm_mi M 80 0 (0 : Int32)).1 86 x1.toNatClampNeg) ((sm_mi M 80 0 (0 : Int32))) _ h
theorem c_X12_symbolAt {sk : List sm_Sh} (hx : sm_ext skM sk) (F : Nat) (x1 : Int32) (M : sm_M) (r : Int32 × sm_M) (h : f_X12_symbolAt F x1 M = some r) : sm_Ct yX12_symbolAt md_X12_symbolAt 2 sk [.ref 80, .int x1] M (.inl (some (.int r.1))) r.2 := sm_enter 0 pn_X12 rfl (Nat.le_of_ble_eq_true rfl) rfl (j_X12_symbolAt hx F x1 M r h)
