/-! ===== methods, decompiled: 16c.model ===== -/
/-! UniversalCyclesModel.length()I -/
theorem d_X12_length_0 : decode cX12_length 0 = .ok (.aload_n 0, 1) := by decide +kernel
theorem d_X12_length_1 : decode cX12_length 1 = .ok (.iconst 0, 1) := by decide +kernel
theorem d_X12_length_2 : decode cX12_length 2 = .ok (.putfield 1, 3) := by decide +kernel
theorem d_X12_length_5 : decode cX12_length 5 = .ok (.aload_n 0, 1) := by decide +kernel
theorem d_X12_length_6 : decode cX12_length 6 = .ok (.getfield 125, 3) := by decide +kernel
theorem d_X12_length_9 : decode cX12_length 9 = .ok (.ireturn, 1) := by decide +kernel
def f_X12_length (F : Nat) (M : sm_M) : Option (Int32 × sm_M) := some ((((sm_mi M 80 0 (0 : Int32))).1 80 12), (sm_mi M 80 0 (0 : Int32)))
set_option maxRecDepth 100000 in
set_option maxHeartbeats 4000000 in
theorem j_X12_length {sk : List sm_Sh} (hx : sm_ext skM sk) (F : Nat) : ∀ (M : sm_M) (r : Int32 × sm_M), f_X12_length F M = some r → sm_J (md_X12_length, 0, sk, .inl (some (.int r.1)), r.2) 0 [some (.ref 80)] [] M := by
  intro   M r h
  unfold f_X12_length at h
  refine sm_aload_n (q := 1) d_X12_length_0 rfl rfl ?_
  refine sm_iconst (q := 2) d_X12_length_1 rfl ci_0 ?_
  refine sm_puti (q := 5) d_X12_length_2 rfl fw_X12_1 (hx sx_80) rfl rfl rfl ?_
  refine sm_aload_n (q := 6) d_X12_length_5 rfl rfl ?_
  refine sm_geti (q := 9) d_X12_length_6 rfl fl_X12_125 (hx sx_80) rfl ?_
  obtain rfl := Option.some.inj h
  exact sm_iret d_X12_length_9 rfl rfl rfl rfl
theorem c_X12_length {sk : List sm_Sh} (hx : sm_ext skM sk) (F : Nat) (M : sm_M) (r : Int32 × sm_M) (h : f_X12_length F M = some r) : sm_Ct yX12_length md_X12_length 0 sk [.ref 80] M (.inl (some (.int r.1))) r.2 := sm_enter 0 pn_X12 rfl (Nat.le_of_ble_eq_true rfl) rfl (j_X12_length hx F M r h)
/-! UniversalCyclesModel.clear()I -/
theorem d_X12_clear_0 : decode cX12_clear 0 = .ok (.aload_n 0, 1) := by decide +kernel
theorem d_X12_clear_1 : decode cX12_clear 1 = .ok (.iconst 0, 1) := by decide +kernel
theorem d_X12_clear_2 : decode cX12_clear 2 = .ok (.putfield 1, 3) := by decide +kernel
theorem d_X12_clear_5 : decode cX12_clear 5 = .ok (.aload_n 0, 1) := by decide +kernel
theorem d_X12_clear_6 : decode cX12_clear 6 = .ok (.getfield 125, 3) := by decide +kernel
theorem d_X12_clear_9 : decode cX12_clear 9 = .ok (.istore_n 1, 1) := by decide +kernel
theorem d_X12_clear_10 : decode cX12_clear 10 = .ok (.aload_n 0, 1) := by decide +kernel
theorem d_X12_clear_11 : decode cX12_clear 11 = .ok (.iconst 0, 1) := by decide +kernel
theorem d_X12_clear_12 : decode cX12_clear 12 = .ok (.invokevirtual 144, 3) := by decide +kernel
theorem d_X12_clear_15 : decode cX12_clear 15 = .ok (.iload_n 1, 1) := by decide +kernel
theorem d_X12_clear_16 : decode cX12_clear 16 = .ok (.ireturn, 1) := by decide +kernel
def f_X12_clear (F : Nat) (M : sm_M) : Option (Int32 × sm_M) := (f_X12_replace F (0 : Int32) (sm_mi M 80 0 (0 : Int32))).bind fun q1 => some ((((sm_mi M 80 0 (0 : Int32))).1 80 12), q1)
set_option maxRecDepth 100000 in
set_option maxHeartbeats 4000000 in
theorem j_X12_clear {sk : List sm_Sh} (hx : sm_ext skM sk) (F : Nat) : ∀ (M : sm_M) (r : Int32 × sm_M), f_X12_clear F M = some r → sm_J (md_X12_clear, 2, sk, .inl (some (.int r.1)), r.2) 0 [some (.ref 80), none] [] M := by
  intro   M r h
  unfold f_X12_clear at h
  refine sm_aload_n (q := 1) d_X12_clear_0 rfl rfl ?_
  refine sm_iconst (q := 2) d_X12_clear_1 rfl ci_0 ?_
  refine sm_puti (q := 5) d_X12_clear_2 rfl fw_X12_1 (hx sx_80) rfl rfl rfl ?_
  refine sm_aload_n (q := 6) d_X12_clear_5 rfl rfl ?_
  refine sm_geti (q := 9) d_X12_clear_6 rfl fl_X12_125 (hx sx_80) rfl ?_
  refine sm_istore_n (q := 10) (lt := [some (.ref 80), some (.int (((sm_mi M 80 0 (0 : Int32))).1 80 12))]) d_X12_clear_9 rfl (Nat.le_of_ble_eq_true rfl) rfl rfl ?_
  refine sm_aload_n (q := 11) d_X12_clear_10 rfl rfl ?_
  refine sm_iconst (q := 12) d_X12_clear_11 rfl ci_0 ?_
  obtain ⟨q1, e1, h⟩ := sm_bd h
  refine sm_callV (q := 15) (d' := 1) [] [.int (0 : Int32)] d_X12_clear_12 rfl lk_X12_144 (hx sx_80) rfl rfl rfl (Nat.le_of_ble_eq_true rfl) (Nat.le_of_ble_eq_true rfl) (c_X12_replace hx F (0 : Int32) (sm_mi M 80 0 (0 : Int32)) _ e1) (st9 := []) rfl ?_
  refine sm_iload_n (q := 16) d_X12_clear_15 rfl rfl ?_
  obtain rfl := Option.some.inj h
  exact sm_iret d_X12_clear_16 rfl rfl rfl rfl
theorem c_X12_clear {sk : List sm_Sh} (hx : sm_ext skM sk) (F : Nat) (M : sm_M) (r : Int32 × sm_M) (h : f_X12_clear F M = some r) : sm_Ct yX12_clear md_X12_clear 2 sk [.ref 80] M (.inl (some (.int r.1))) r.2 := sm_enter 1 pn_X12 rfl (Nat.le_of_ble_eq_true rfl) rfl (j_X12_clear hx F M r h)
/-! UniversalCyclesModel.undo()I -/
theorem d_X12_undo_0 : decode cX12_undo 0 = .ok (.aload_n 0, 1) := by decide +kernel
theorem d_X12_undo_1 : decode cX12_undo 1 = .ok (.iconst 0, 1) := by decide +kernel
theorem d_X12_undo_2 : decode cX12_undo 2 = .ok (.putfield 1, 3) := by decide +kernel
theorem d_X12_undo_5 : decode cX12_undo 5 = .ok (.aload_n 0, 1) := by decide +kernel
theorem d_X12_undo_6 : decode cX12_undo 6 = .ok (.getfield 128, 3) := by decide +kernel
theorem d_X12_undo_9 : decode cX12_undo 9 = .ok (.ifCond .ne 9, 3) := by decide +kernel
theorem d_X12_undo_12 : decode cX12_undo 12 = .ok (.aload_n 0, 1) := by decide +kernel
theorem d_X12_undo_13 : decode cX12_undo 13 = .ok (.iconst 1, 1) := by decide +kernel
theorem d_X12_undo_14 : decode cX12_undo 14 = .ok (.invokevirtual 122, 3) := by decide +kernel
theorem d_X12_undo_17 : decode cX12_undo 17 = .ok (.ireturn, 1) := by decide +kernel
theorem d_X12_undo_18 : decode cX12_undo 18 = .ok (.aload_n 0, 1) := by decide +kernel
theorem d_X12_undo_19 : decode cX12_undo 19 = .ok (.dup, 1) := by decide +kernel
theorem d_X12_undo_20 : decode cX12_undo 20 = .ok (.getfield 128, 3) := by decide +kernel
theorem d_X12_undo_23 : decode cX12_undo 23 = .ok (.iconst 1, 1) := by decide +kernel
theorem d_X12_undo_24 : decode cX12_undo 24 = .ok (.isub, 1) := by decide +kernel
theorem d_X12_undo_25 : decode cX12_undo 25 = .ok (.putfield 128, 3) := by decide +kernel
theorem d_X12_undo_28 : decode cX12_undo 28 = .ok (.aload_n 0, 1) := by decide +kernel
theorem d_X12_undo_29 : decode cX12_undo 29 = .ok (.aload_n 0, 1) := by decide +kernel
theorem d_X12_undo_30 : decode cX12_undo 30 = .ok (.getfield 42, 3) := by decide +kernel
theorem d_X12_undo_33 : decode cX12_undo 33 = .ok (.aload_n 0, 1) := by decide +kernel
theorem d_X12_undo_34 : decode cX12_undo 34 = .ok (.getfield 128, 3) := by decide +kernel
theorem d_X12_undo_37 : decode cX12_undo 37 = .ok (.iaload, 1) := by decide +kernel
theorem d_X12_undo_38 : decode cX12_undo 38 = .ok (.putfield 125, 3) := by decide +kernel
theorem d_X12_undo_41 : decode cX12_undo 41 = .ok (.iconst 0, 1) := by decide +kernel
theorem d_X12_undo_42 : decode cX12_undo 42 = .ok (.istore_n 1, 1) := by decide +kernel
theorem d_X12_undo_43 : decode cX12_undo 43 = .ok (.iload_n 1, 1) := by decide +kernel
theorem d_X12_undo_44 : decode cX12_undo 44 = .ok (.aload_n 0, 1) := by decide +kernel
theorem d_X12_undo_45 : decode cX12_undo 45 = .ok (.getfield 125, 3) := by decide +kernel
theorem d_X12_undo_48 : decode cX12_undo 48 = .ok (.if_icmp .ge 30, 3) := by decide +kernel
theorem d_X12_undo_51 : decode cX12_undo 51 = .ok (.aload_n 0, 1) := by decide +kernel
theorem d_X12_undo_52 : decode cX12_undo 52 = .ok (.getfield 36, 3) := by decide +kernel
theorem d_X12_undo_55 : decode cX12_undo 55 = .ok (.iload_n 1, 1) := by decide +kernel
theorem d_X12_undo_56 : decode cX12_undo 56 = .ok (.aload_n 0, 1) := by decide +kernel
theorem d_X12_undo_57 : decode cX12_undo 57 = .ok (.getfield 39, 3) := by decide +kernel
theorem d_X12_undo_60 : decode cX12_undo 60 = .ok (.sipush 240, 3) := by decide +kernel
theorem d_X12_undo_63 : decode cX12_undo 63 = .ok (.aload_n 0, 1) := by decide +kernel
theorem d_X12_undo_64 : decode cX12_undo 64 = .ok (.getfield 128, 3) := by decide +kernel
theorem d_X12_undo_67 : decode cX12_undo 67 = .ok (.imul, 1) := by decide +kernel
theorem d_X12_undo_68 : decode cX12_undo 68 = .ok (.iload_n 1, 1) := by decide +kernel
theorem d_X12_undo_69 : decode cX12_undo 69 = .ok (.iadd, 1) := by decide +kernel
theorem d_X12_undo_70 : decode cX12_undo 70 = .ok (.iaload, 1) := by decide +kernel
theorem d_X12_undo_71 : decode cX12_undo 71 = .ok (.iastore, 1) := by decide +kernel
theorem d_X12_undo_72 : decode cX12_undo 72 = .ok (.iinc 1 1, 3) := by decide +kernel
theorem d_X12_undo_75 : decode cX12_undo 75 = .ok (.goto (-32), 3) := by decide +kernel
theorem d_X12_undo_78 : decode cX12_undo 78 = .ok (.aload_n 0, 1) := by decide +kernel
theorem d_X12_undo_79 : decode cX12_undo 79 = .ok (.getfield 125, 3) := by decide +kernel
theorem d_X12_undo_82 : decode cX12_undo 82 = .ok (.ireturn, 1) := by decide +kernel
def f_X12_undo_43b (F : Nat) (kb43 : Int32 → sm_M → Option (Int32 × sm_M)) (x1 : Int32) (M : sm_M) : Option (Int32 × sm_M) := if (M.1 80 12) ≤ x1 then (some ((M.1 80 12), M)) else (sm_g (sm_ib (((240 : Int32) * (M.1 80 15)) + x1) 2880) (sm_g (sm_ib x1 240) (kb43 (x1 + 1) ((sm_mi M 86 x1.toNatClampNeg (M.1 87 (((240 : Int32) * (M.1 80 15)) + x1).toNatClampNeg))))))
set_option maxRecDepth 100000 in
set_option maxHeartbeats 4000000 in
theorem j_X12_undo_43b {sk : List sm_Sh} (hx : sm_ext skM sk) (F : Nat) (kb43 : Int32 → sm_M → Option (Int32 × sm_M)) (hkb43 : ∀ (x1 : Int32) (M : sm_M) (r : Int32 × sm_M), kb43 x1 M = some r → sm_J (md_X12_undo, 1, sk, .inl (some (.int r.1)), r.2) 43 [some (.ref 80), some (.int x1)] [] M) : ∀ (x1 : Int32) (M : sm_M) (r : Int32 × sm_M), f_X12_undo_43b F kb43 x1 M = some r → sm_J (md_X12_undo, 1, sk, .inl (some (.int r.1)), r.2) 43 [some (.ref 80), some (.int x1)] [] M := by
  intro x1  M r h
  unfold f_X12_undo_43b at h
  refine sm_iload_n (q := 44) d_X12_undo_43 rfl rfl ?_
  refine sm_aload_n (q := 45) d_X12_undo_44 rfl rfl ?_
  refine sm_geti (q := 48) d_X12_undo_45 rfl fl_X12_125 (hx sx_80) rfl ?_
  refine sm_icmp_ge (q := 51) (t := 78) d_X12_undo_48 rfl rfl (fun c1 => ?_) (fun c1 => ?_)
  · replace h := sm_it c1 h
    refine sm_aload_n (q := 79) d_X12_undo_78 rfl rfl ?_
    refine sm_geti (q := 82) d_X12_undo_79 rfl fl_X12_125 (hx sx_80) rfl ?_
    obtain rfl := Option.some.inj h
    exact sm_iret d_X12_undo_82 rfl rfl rfl rfl
  · replace h := sm_if c1 h
    refine sm_aload_n (q := 52) d_X12_undo_51 rfl rfl ?_
    refine sm_getr (q := 55) d_X12_undo_52 rfl fl_X12_36 (hx sx_80) rfl ?_
    refine sm_iload_n (q := 56) d_X12_undo_55 rfl rfl ?_
    refine sm_aload_n (q := 57) d_X12_undo_56 rfl rfl ?_
    refine sm_getr (q := 60) d_X12_undo_57 rfl fl_X12_39 (hx sx_80) rfl ?_
    refine sm_sipush (q := 63) d_X12_undo_60 rfl cs_240 ?_
    refine sm_aload_n (q := 64) d_X12_undo_63 rfl rfl ?_
    refine sm_geti (q := 67) d_X12_undo_64 rfl fl_X12_128 (hx sx_80) rfl ?_
    refine sm_imul (q := 68) d_X12_undo_67 rfl ?_
    refine sm_iload_n (q := 69) d_X12_undo_68 rfl rfl ?_
    refine sm_iadd (q := 70) d_X12_undo_69 rfl ?_
    obtain ⟨g2, h⟩ := sm_gt h
    refine sm_iaload (q := 71) d_X12_undo_70 rfl (hx sx_87) (sm_ib_of g2) ?_
    obtain ⟨g3, h⟩ := sm_gt h
    refine sm_iastore (q := 72) d_X12_undo_71 rfl (hx sx_86) (sm_ib_of g3) ?_
    refine sm_iinc (q := 75) (v := (x1 + 1)) (lt := [some (.ref 80), some (.int (x1 + 1))]) d_X12_undo_72 rfl rfl (ii_1 _) (Nat.le_of_ble_eq_true rfl) rfl rfl ?_
    refine sm_goto (t := 43) d_X12_undo_75 rfl ?_
    exact hkb43 (x1 + 1) ((sm_mi M 86 x1.toNatClampNeg (M.1 87 (((240 : Int32) * (M.1 80 15)) + x1).toNatClampNeg))) _ h
def f_X12_undo_43 (F : Nat) (n : Nat) : Int32 → sm_M → Option (Int32 × sm_M) := match n with
 | 0 => fun _ _ => none
 | n + 1 => f_X12_undo_43b F (f_X12_undo_43 F n)
theorem j_X12_undo_43 {sk : List sm_Sh} (hx : sm_ext skM sk) (F : Nat) : ∀ (n : Nat) (x1 : Int32) (M : sm_M) (r : Int32 × sm_M), f_X12_undo_43 F n x1 M = some r → sm_J (md_X12_undo, 1, sk, .inl (some (.int r.1)), r.2) 43 [some (.ref 80), some (.int x1)] [] M := by
  intro n
  induction n with
  | zero => intro x1  M r h; exact nomatch (show (none : Option (Int32 × sm_M)) = some r from h)
  | succ n ih => exact j_X12_undo_43b hx F (f_X12_undo_43 F n) ih
def f_X12_undo (F : Nat) (M : sm_M) : Option (Int32 × sm_M) := if (((sm_mi M 80 0 (0 : Int32))).1 80 15) = 0 then ((f_X12_fail F (1 : Int32) (sm_mi M 80 0 (0 : Int32))).bind fun q3 => some (q3.1, q3.2)) else (sm_g (sm_ib (((sm_mi (sm_mi M 80 0 (0 : Int32)) 80 15 ((((sm_mi M 80 0 (0 : Int32))).1 80 15) - (1 : Int32)))).1 80 15) 12) (f_X12_undo_43 F F (0 : Int32) ((sm_mi (sm_mi (sm_mi M 80 0 (0 : Int32)) 80 15 ((((sm_mi M 80 0 (0 : Int32))).1 80 15) - (1 : Int32))) 80 12 ((sm_mi (sm_mi M 80 0 (0 : Int32)) 80 15 ((((sm_mi M 80 0 (0 : Int32))).1 80 15) - (1 : Int32))).1 88 (((sm_mi (sm_mi M 80 0 (0 : Int32)) 80 15 ((((sm_mi M 80 0 (0 : Int32))).1 80 15) - (1 : Int32)))).1 80 15).toNatClampNeg)))))
set_option maxRecDepth 100000 in
set_option maxHeartbeats 4000000 in
theorem j_X12_undo {sk : List sm_Sh} (hx : sm_ext skM sk) (F : Nat) : ∀ (M : sm_M) (r : Int32 × sm_M), f_X12_undo F M = some r → sm_J (md_X12_undo, 1, sk, .inl (some (.int r.1)), r.2) 0 [some (.ref 80), none] [] M := by
  intro   M r h
  unfold f_X12_undo at h
  refine sm_aload_n (q := 1) d_X12_undo_0 rfl rfl ?_
  refine sm_iconst (q := 2) d_X12_undo_1 rfl ci_0 ?_
  refine sm_puti (q := 5) d_X12_undo_2 rfl fw_X12_1 (hx sx_80) rfl rfl rfl ?_
  refine sm_aload_n (q := 6) d_X12_undo_5 rfl rfl ?_
  refine sm_geti (q := 9) d_X12_undo_6 rfl fl_X12_128 (hx sx_80) rfl ?_
  refine sm_if_ne (q := 12) (t := 18) d_X12_undo_9 rfl rfl (fun c1 => ?_) (fun c1 => ?_)
  · replace h := sm_if c1 h
    refine sm_aload_n (q := 19) d_X12_undo_18 rfl rfl ?_
    refine sm_dup (q := 20) d_X12_undo_19 rfl rfl ?_
    refine sm_geti (q := 23) d_X12_undo_20 rfl fl_X12_128 (hx sx_80) rfl ?_
    refine sm_iconst (q := 24) d_X12_undo_23 rfl ci_1 ?_
    refine sm_isub (q := 25) d_X12_undo_24 rfl ?_
    refine sm_puti (q := 28) d_X12_undo_25 rfl fw_X12_128 (hx sx_80) rfl rfl rfl ?_
    refine sm_aload_n (q := 29) d_X12_undo_28 rfl rfl ?_
    refine sm_aload_n (q := 30) d_X12_undo_29 rfl rfl ?_
    refine sm_getr (q := 33) d_X12_undo_30 rfl fl_X12_42 (hx sx_80) rfl ?_
    refine sm_aload_n (q := 34) d_X12_undo_33 rfl rfl ?_
    refine sm_geti (q := 37) d_X12_undo_34 rfl fl_X12_128 (hx sx_80) rfl ?_
    obtain ⟨g2, h⟩ := sm_gt h
    refine sm_iaload (q := 38) d_X12_undo_37 rfl (hx sx_88) (sm_ib_of g2) ?_
    refine sm_puti (q := 41) d_X12_undo_38 rfl fw_X12_125 (hx sx_80) rfl rfl rfl ?_
    refine sm_iconst (q := 42) d_X12_undo_41 rfl ci_0 ?_
    refine sm_istore_n (q := 43) (lt := [some (.ref 80), some (.int (0 : Int32))]) d_X12_undo_42 rfl (Nat.le_of_ble_eq_true rfl) rfl rfl ?_
    exact j_X12_undo_43 hx F F (0 : Int32) ((sm_mi (sm_mi (sm_mi M 80 0 (0 : Int32)) 80 15 ((((sm_mi M 80 0 (0 : Int32))).1 80 15) - (1 : Int32))) 80 12 ((sm_mi (sm_mi M 80 0 (0 : Int32)) 80 15 ((((sm_mi M 80 0 (0 : Int32))).1 80 15) - (1 : Int32))).1 88 (((sm_mi (sm_mi M 80 0 (0 : Int32)) 80 15 ((((sm_mi M 80 0 (0 : Int32))).1 80 15) - (1 : Int32)))).1 80 15).toNatClampNeg))) _ h
  · replace h := sm_it c1 h
    refine sm_aload_n (q := 13) d_X12_undo_12 rfl rfl ?_
    refine sm_iconst (q := 14) d_X12_undo_13 rfl ci_1 ?_
    obtain ⟨q3, e3, h⟩ := sm_bd h
    refine sm_callV (q := 17) (d' := 0) [] [.int (1 : Int32)] d_X12_undo_14 rfl lk_X12_122 (hx sx_80) rfl rfl rfl (Nat.le_of_ble_eq_true rfl) (Nat.le_of_ble_eq_true rfl) (c_X12_fail hx F (1 : Int32) (sm_mi M 80 0 (0 : Int32)) _ e3) (st9 := [.int q3.1]) rfl ?_
    obtain rfl := Option.some.inj h
    exact sm_iret d_X12_undo_17 rfl rfl rfl rfl
theorem c_X12_undo {sk : List sm_Sh} (hx : sm_ext skM sk) (F : Nat) (M : sm_M) (r : Int32 × sm_M) (h : f_X12_undo F M = some r) : sm_Ct yX12_undo md_X12_undo 1 sk [.ref 80] M (.inl (some (.int r.1))) r.2 := sm_enter 1 pn_X12 rfl (Nat.le_of_ble_eq_true rfl) rfl (j_X12_undo hx F M r h)
/-! UniversalCyclesModel.feed(C)I -/
theorem d_X12_feed_0 : decode cX12_feed 0 = .ok (.aload_n 0, 1) := by decide +kernel
theorem d_X12_feed_1 : decode cX12_feed 1 = .ok (.iconst 0, 1) := by decide +kernel
theorem d_X12_feed_2 : decode cX12_feed 2 = .ok (.putfield 1, 3) := by decide +kernel
theorem d_X12_feed_5 : decode cX12_feed 5 = .ok (.aload_n 0, 1) := by decide +kernel
theorem d_X12_feed_6 : decode cX12_feed 6 = .ok (.getfield 148, 3) := by decide +kernel
theorem d_X12_feed_9 : decode cX12_feed 9 = .ok (.sipush 240, 3) := by decide +kernel
theorem d_X12_feed_12 : decode cX12_feed 12 = .ok (.if_icmp .ne 9, 3) := by decide +kernel
theorem d_X12_feed_15 : decode cX12_feed 15 = .ok (.aload_n 0, 1) := by decide +kernel
theorem d_X12_feed_16 : decode cX12_feed 16 = .ok (.iconst 1, 1) := by decide +kernel
theorem d_X12_feed_17 : decode cX12_feed 17 = .ok (.invokevirtual 122, 3) := by decide +kernel
theorem d_X12_feed_20 : decode cX12_feed 20 = .ok (.ireturn, 1) := by decide +kernel
theorem d_X12_feed_21 : decode cX12_feed 21 = .ok (.aload_n 0, 1) := by decide +kernel
theorem d_X12_feed_22 : decode cX12_feed 22 = .ok (.getfield 48, 3) := by decide +kernel
theorem d_X12_feed_25 : decode cX12_feed 25 = .ok (.aload_n 0, 1) := by decide +kernel
theorem d_X12_feed_26 : decode cX12_feed 26 = .ok (.getfield 148, 3) := by decide +kernel
theorem d_X12_feed_29 : decode cX12_feed 29 = .ok (.iload_n 1, 1) := by decide +kernel
theorem d_X12_feed_30 : decode cX12_feed 30 = .ok (.castore, 1) := by decide +kernel
theorem d_X12_feed_31 : decode cX12_feed 31 = .ok (.aload_n 0, 1) := by decide +kernel
theorem d_X12_feed_32 : decode cX12_feed 32 = .ok (.dup, 1) := by decide +kernel
theorem d_X12_feed_33 : decode cX12_feed 33 = .ok (.getfield 148, 3) := by decide +kernel
theorem d_X12_feed_36 : decode cX12_feed 36 = .ok (.iconst 1, 1) := by decide +kernel
theorem d_X12_feed_37 : decode cX12_feed 37 = .ok (.iadd, 1) := by decide +kernel
theorem d_X12_feed_38 : decode cX12_feed 38 = .ok (.putfield 148, 3) := by decide +kernel
theorem d_X12_feed_41 : decode cX12_feed 41 = .ok (.aload_n 0, 1) := by decide +kernel
theorem d_X12_feed_42 : decode cX12_feed 42 = .ok (.getfield 148, 3) := by decide +kernel
theorem d_X12_feed_45 : decode cX12_feed 45 = .ok (.ireturn, 1) := by decide +kernel
def f_X12_feed (F : Nat) (x1 : Int32) (M : sm_M) : Option (Int32 × sm_M) := if (((sm_mi M 80 0 (0 : Int32))).1 80 18) = (240 : Int32) then ((f_X12_fail F (1 : Int32) (sm_mi M 80 0 (0 : Int32))).bind fun q3 => some (q3.1, q3.2)) else (sm_g (sm_ib (((sm_mi M 80 0 (0 : Int32))).1 80 18) 240) (some ((((sm_mi (sm_mi (sm_mi M 80 0 (0 : Int32)) 90 (((sm_mi M 80 0 (0 : Int32))).1 80 18).toNatClampNeg (vp_nar .char x1)) 80 18 ((((sm_mi (sm_mi M 80 0 (0 : Int32)) 90 (((sm_mi M 80 0 (0 : Int32))).1 80 18).toNatClampNeg (vp_nar .char x1))).1 80 18) + (1 : Int32)))).1 80 18), (sm_mi (sm_mi (sm_mi M 80 0 (0 : Int32)) 90 (((sm_mi M 80 0 (0 : Int32))).1 80 18).toNatClampNeg (vp_nar .char x1)) 80 18 ((((sm_mi (sm_mi M 80 0 (0 : Int32)) 90 (((sm_mi M 80 0 (0 : Int32))).1 80 18).toNatClampNeg (vp_nar .char x1))).1 80 18) + (1 : Int32))))))
set_option maxRecDepth 100000 in
set_option maxHeartbeats 4000000 in
theorem j_X12_feed {sk : List sm_Sh} (hx : sm_ext skM sk) (F : Nat) : ∀ (x1 : Int32) (M : sm_M) (r : Int32 × sm_M), f_X12_feed F x1 M = some r → sm_J (md_X12_feed, 1, sk, .inl (some (.int r.1)), r.2) 0 [some (.ref 80), some (.int x1)] [] M := by
  intro x1  M r h
  unfold f_X12_feed at h
  refine sm_aload_n (q := 1) d_X12_feed_0 rfl rfl ?_
  refine sm_iconst (q := 2) d_X12_feed_1 rfl ci_0 ?_
  refine sm_puti (q := 5) d_X12_feed_2 rfl fw_X12_1 (hx sx_80) rfl rfl rfl ?_
  refine sm_aload_n (q := 6) d_X12_feed_5 rfl rfl ?_
  refine sm_geti (q := 9) d_X12_feed_6 rfl fl_X12_148 (hx sx_80) rfl ?_
  refine sm_sipush (q := 12) d_X12_feed_9 rfl cs_240 ?_
  refine sm_icmp_ne (q := 15) (t := 21) d_X12_feed_12 rfl rfl (fun c1 => ?_) (fun c1 => ?_)
  · replace h := sm_if c1 h
    refine sm_aload_n (q := 22) d_X12_feed_21 rfl rfl ?_
    refine sm_getr (q := 25) d_X12_feed_22 rfl fl_X12_48 (hx sx_80) rfl ?_
    refine sm_aload_n (q := 26) d_X12_feed_25 rfl rfl ?_
    refine sm_geti (q := 29) d_X12_feed_26 rfl fl_X12_148 (hx sx_80) rfl ?_
    refine sm_iload_n (q := 30) d_X12_feed_29 rfl rfl ?_
    obtain ⟨g2, h⟩ := sm_gt h
    refine sm_castore (q := 31) d_X12_feed_30 rfl (hx sx_90) (sm_ib_of g2) ?_
    refine sm_aload_n (q := 32) d_X12_feed_31 rfl rfl ?_
    refine sm_dup (q := 33) d_X12_feed_32 rfl rfl ?_
    refine sm_geti (q := 36) d_X12_feed_33 rfl fl_X12_148 (hx sx_80) rfl ?_
    refine sm_iconst (q := 37) d_X12_feed_36 rfl ci_1 ?_
    refine sm_iadd (q := 38) d_X12_feed_37 rfl ?_
    refine sm_puti (q := 41) d_X12_feed_38 rfl fw_X12_148 (hx sx_80) rfl rfl rfl ?_
    refine sm_aload_n (q := 42) d_X12_feed_41 rfl rfl ?_
    refine sm_geti (q := 45) d_X12_feed_42 rfl fl_X12_148 (hx sx_80) rfl ?_
    obtain rfl := Option.some.inj h
    exact sm_iret d_X12_feed_45 rfl rfl rfl rfl
  · replace h := sm_it c1 h
    refine sm_aload_n (q := 16) d_X12_feed_15 rfl rfl ?_
    refine sm_iconst (q := 17) d_X12_feed_16 rfl ci_1 ?_
    obtain ⟨q3, e3, h⟩ := sm_bd h
    refine sm_callV (q := 20) (d' := 0) [] [.int (1 : Int32)] d_X12_feed_17 rfl lk_X12_122 (hx sx_80) rfl rfl rfl (Nat.le_of_ble_eq_true rfl) (Nat.le_of_ble_eq_true rfl) (c_X12_fail hx F (1 : Int32) (sm_mi M 80 0 (0 : Int32)) _ e3) (st9 := [.int q3.1]) rfl ?_
    obtain rfl := Option.some.inj h
    exact sm_iret d_X12_feed_20 rfl rfl rfl rfl
theorem c_X12_feed {sk : List sm_Sh} (hx : sm_ext skM sk) (F : Nat) (x1 : Int32) (M : sm_M) (r : Int32 × sm_M) (h : f_X12_feed F x1 M = some r) : sm_Ct yX12_feed md_X12_feed 1 sk [.ref 80, .int x1] M (.inl (some (.int r.1))) r.2 := sm_enter 0 pn_X12 rfl (Nat.le_of_ble_eq_true rfl) rfl (j_X12_feed hx F x1 M r h)
/-! UniversalCyclesModel.read()I -/
theorem d_X12_read_0 : decode cX12_read 0 = .ok (.aload_n 0, 1) := by decide +kernel
theorem d_X12_read_1 : decode cX12_read 1 = .ok (.iconst 0, 1) := by decide +kernel
theorem d_X12_read_2 : decode cX12_read 2 = .ok (.putfield 1, 3) := by decide +kernel
theorem d_X12_read_5 : decode cX12_read 5 = .ok (.aload_n 0, 1) := by decide +kernel
theorem d_X12_read_6 : decode cX12_read 6 = .ok (.getfield 148, 3) := by decide +kernel
theorem d_X12_read_9 : decode cX12_read 9 = .ok (.istore_n 1, 1) := by decide +kernel
theorem d_X12_read_10 : decode cX12_read 10 = .ok (.aload_n 0, 1) := by decide +kernel
theorem d_X12_read_11 : decode cX12_read 11 = .ok (.iconst 0, 1) := by decide +kernel
theorem d_X12_read_12 : decode cX12_read 12 = .ok (.putfield 148, 3) := by decide +kernel
theorem d_X12_read_15 : decode cX12_read 15 = .ok (.iconst 0, 1) := by decide +kernel
theorem d_X12_read_16 : decode cX12_read 16 = .ok (.istore_n 2, 1) := by decide +kernel
theorem d_X12_read_17 : decode cX12_read 17 = .ok (.iload_n 2, 1) := by decide +kernel
theorem d_X12_read_18 : decode cX12_read 18 = .ok (.iload_n 1, 1) := by decide +kernel
theorem d_X12_read_19 : decode cX12_read 19 = .ok (.if_icmp .ge 52, 3) := by decide +kernel
theorem d_X12_read_22 : decode cX12_read 22 = .ok (.aload_n 0, 1) := by decide +kernel
theorem d_X12_read_23 : decode cX12_read 23 = .ok (.getfield 48, 3) := by decide +kernel
theorem d_X12_read_26 : decode cX12_read 26 = .ok (.iload_n 2, 1) := by decide +kernel
theorem d_X12_read_27 : decode cX12_read 27 = .ok (.caload, 1) := by decide +kernel
theorem d_X12_read_28 : decode cX12_read 28 = .ok (.bipush 48, 2) := by decide +kernel
theorem d_X12_read_30 : decode cX12_read 30 = .ok (.bipush 48, 2) := by decide +kernel
theorem d_X12_read_32 : decode cX12_read 32 = .ok (.aload_n 0, 1) := by decide +kernel
theorem d_X12_read_33 : decode cX12_read 33 = .ok (.getfield 16, 3) := by decide +kernel
theorem d_X12_read_36 : decode cX12_read 36 = .ok (.iadd, 1) := by decide +kernel
theorem d_X12_read_37 : decode cX12_read 37 = .ok (.iconst 1, 1) := by decide +kernel
theorem d_X12_read_38 : decode cX12_read 38 = .ok (.isub, 1) := by decide +kernel
theorem d_X12_read_39 : decode cX12_read 39 = .ok (.invokestatic 115, 3) := by decide +kernel
theorem d_X12_read_42 : decode cX12_read 42 = .ok (.ifCond .ne 8, 3) := by decide +kernel
theorem d_X12_read_45 : decode cX12_read 45 = .ok (.bipush (-100), 2) := by decide +kernel
theorem d_X12_read_47 : decode cX12_read 47 = .ok (.iload_n 2, 1) := by decide +kernel
theorem d_X12_read_48 : decode cX12_read 48 = .ok (.isub, 1) := by decide +kernel
theorem d_X12_read_49 : decode cX12_read 49 = .ok (.ireturn, 1) := by decide +kernel
theorem d_X12_read_50 : decode cX12_read 50 = .ok (.aload_n 0, 1) := by decide +kernel
theorem d_X12_read_51 : decode cX12_read 51 = .ok (.getfield 45, 3) := by decide +kernel
theorem d_X12_read_54 : decode cX12_read 54 = .ok (.iload_n 2, 1) := by decide +kernel
theorem d_X12_read_55 : decode cX12_read 55 = .ok (.aload_n 0, 1) := by decide +kernel
theorem d_X12_read_56 : decode cX12_read 56 = .ok (.getfield 48, 3) := by decide +kernel
theorem d_X12_read_59 : decode cX12_read 59 = .ok (.iload_n 2, 1) := by decide +kernel
theorem d_X12_read_60 : decode cX12_read 60 = .ok (.caload, 1) := by decide +kernel
theorem d_X12_read_61 : decode cX12_read 61 = .ok (.bipush 48, 2) := by decide +kernel
theorem d_X12_read_63 : decode cX12_read 63 = .ok (.isub, 1) := by decide +kernel
theorem d_X12_read_64 : decode cX12_read 64 = .ok (.iastore, 1) := by decide +kernel
theorem d_X12_read_65 : decode cX12_read 65 = .ok (.iinc 2 1, 3) := by decide +kernel
theorem d_X12_read_68 : decode cX12_read 68 = .ok (.goto (-51), 3) := by decide +kernel
theorem d_X12_read_71 : decode cX12_read 71 = .ok (.aload_n 0, 1) := by decide +kernel
theorem d_X12_read_72 : decode cX12_read 72 = .ok (.iload_n 1, 1) := by decide +kernel
theorem d_X12_read_73 : decode cX12_read 73 = .ok (.invokevirtual 144, 3) := by decide +kernel
theorem d_X12_read_76 : decode cX12_read 76 = .ok (.iload_n 1, 1) := by decide +kernel
theorem d_X12_read_77 : decode cX12_read 77 = .ok (.ireturn, 1) := by decide +kernel
def f_X12_read_17b (F : Nat) (kb17 : Int32 → Int32 → sm_M → Option (Int32 × sm_M)) (x1 : Int32) (x2 : Int32) (M : sm_M) : Option (Int32 × sm_M) := if x1 ≤ x2 then ((f_X12_replace F x1 M).bind fun q2 => some (x1, q2)) else (sm_g (sm_ib x2 240) ((f_X12_isIn F (M.1 90 x2.toNatClampNeg) (48 : Int32) (((48 : Int32) + (M.1 80 3)) - (1 : Int32)) M).bind fun q4 => if q4 = 0 then (some (((-100 : Int32) - x2), M)) else (sm_g (sm_ib x2 240) (sm_g (sm_ib x2 240) (kb17 x1 (x2 + 1) ((sm_mi M 89 x2.toNatClampNeg ((M.1 90 x2.toNatClampNeg) - (48 : Int32)))))))))
set_option maxRecDepth 100000 in
set_option maxHeartbeats 4000000 in
theorem j_X12_read_17b {sk : List sm_Sh} (hx : sm_ext skM sk) (F : Nat) (kb17 : Int32 → Int32 → sm_M → Option (Int32 × sm_M)) (hkb17 : ∀ (x1 : Int32) (x2 : Int32) (M : sm_M) (r : Int32 × sm_M), kb17 x1 x2 M = some r → sm_J (md_X12_read, 2, sk, .inl (some (.int r.1)), r.2) 17 [some (.ref 80), some (.int x1), some (.int x2)] [] M) : ∀ (x1 : Int32) (x2 : Int32) (M : sm_M) (r : Int32 × sm_M), f_X12_read_17b F kb17 x1 x2 M = some r → sm_J (md_X12_read, 2, sk, .inl (some (.int r.1)), r.2) 17 [some (.ref 80), some (.int x1), some (.int x2)] [] M := by
  intro x1 x2  M r h
  unfold f_X12_read_17b at h
  refine sm_iload_n (q := 18) d_X12_read_17 rfl rfl ?_
  refine sm_iload_n (q := 19) d_X12_read_18 rfl rfl ?_
  refine sm_icmp_ge (q := 22) (t := 71) d_X12_read_19 rfl rfl (fun c1 => ?_) (fun c1 => ?_)
  · replace h := sm_it c1 h
    refine sm_aload_n (q := 72) d_X12_read_71 rfl rfl ?_
    refine sm_iload_n (q := 73) d_X12_read_72 rfl rfl ?_
    obtain ⟨q2, e2, h⟩ := sm_bd h
    refine sm_callV (q := 76) (d' := 1) [] [.int x1] d_X12_read_73 rfl lk_X12_144 (hx sx_80) rfl rfl rfl (Nat.le_of_ble_eq_true rfl) (Nat.le_of_ble_eq_true rfl) (c_X12_replace hx F x1 M _ e2) (st9 := []) rfl ?_
    refine sm_iload_n (q := 77) d_X12_read_76 rfl rfl ?_
    obtain rfl := Option.some.inj h
    exact sm_iret d_X12_read_77 rfl rfl rfl rfl
  · replace h := sm_if c1 h
    refine sm_aload_n (q := 23) d_X12_read_22 rfl rfl ?_
    refine sm_getr (q := 26) d_X12_read_23 rfl fl_X12_48 (hx sx_80) rfl ?_
    refine sm_iload_n (q := 27) d_X12_read_26 rfl rfl ?_
    obtain ⟨g3, h⟩ := sm_gt h
    refine sm_caload (q := 28) d_X12_read_27 rfl (hx sx_90) (sm_ib_of g3) ?_
    refine sm_bipush (q := 30) d_X12_read_28 rfl cb_48 ?_
    refine sm_bipush (q := 32) d_X12_read_30 rfl cb_48 ?_
    refine sm_aload_n (q := 33) d_X12_read_32 rfl rfl ?_
    refine sm_geti (q := 36) d_X12_read_33 rfl fl_X12_16 (hx sx_80) rfl ?_
    refine sm_iadd (q := 37) d_X12_read_36 rfl ?_
    refine sm_iconst (q := 38) d_X12_read_37 rfl ci_1 ?_
    refine sm_isub (q := 39) d_X12_read_38 rfl ?_
    obtain ⟨q4, e4, h⟩ := sm_bd h
    refine sm_callS (q := 42) (d' := 0) [] [.int (M.1 90 x2.toNatClampNeg), .int (48 : Int32), .int (((48 : Int32) + (M.1 80 3)) - (1 : Int32))] d_X12_read_39 rfl lk_X12_115 rfl (Nat.le_of_ble_eq_true rfl) (Nat.le_of_ble_eq_true rfl) (c_X12_isIn hx F (M.1 90 x2.toNatClampNeg) (48 : Int32) (((48 : Int32) + (M.1 80 3)) - (1 : Int32)) M _ e4) (st9 := [.int q4]) rfl ?_
    refine sm_if_ne (q := 45) (t := 50) d_X12_read_42 rfl rfl (fun c5 => ?_) (fun c5 => ?_)
    · replace h := sm_if c5 h
      refine sm_aload_n (q := 51) d_X12_read_50 rfl rfl ?_
      refine sm_getr (q := 54) d_X12_read_51 rfl fl_X12_45 (hx sx_80) rfl ?_
      refine sm_iload_n (q := 55) d_X12_read_54 rfl rfl ?_
      refine sm_aload_n (q := 56) d_X12_read_55 rfl rfl ?_
      refine sm_getr (q := 59) d_X12_read_56 rfl fl_X12_48 (hx sx_80) rfl ?_
      refine sm_iload_n (q := 60) d_X12_read_59 rfl rfl ?_
      obtain ⟨g6, h⟩ := sm_gt h
      refine sm_caload (q := 61) d_X12_read_60 rfl (hx sx_90) (sm_ib_of g6) ?_
      refine sm_bipush (q := 63) d_X12_read_61 rfl cb_48 ?_
      refine sm_isub (q := 64) d_X12_read_63 rfl ?_
      obtain ⟨g7, h⟩ := sm_gt h
      refine sm_iastore (q := 65) d_X12_read_64 rfl (hx sx_89) (sm_ib_of g7) ?_
      refine sm_iinc (q := 68) (v := (x2 + 1)) (lt := [some (.ref 80), some (.int x1), some (.int (x2 + 1))]) d_X12_read_65 rfl rfl (ii_1 _) (Nat.le_of_ble_eq_true rfl) rfl rfl ?_
      refine sm_goto (t := 17) d_X12_read_68 rfl ?_
      exact hkb17 x1 (x2 + 1) ((sm_mi M 89 x2.toNatClampNeg ((M.1 90 x2.toNatClampNeg) - (48 : Int32)))) _ h
    · replace h := sm_it c5 h
      refine sm_bipush (q := 47) d_X12_read_45 rfl cb_m100 ?_
      refine sm_iload_n (q := 48) d_X12_read_47 rfl rfl ?_
      refine sm_isub (q := 49) d_X12_read_48 rfl ?_
      obtain rfl := Option.some.inj h
      exact sm_iret d_X12_read_49 rfl rfl rfl rfl
def f_X12_read_17 (F : Nat) (n : Nat) : Int32 → Int32 → sm_M → Option (Int32 × sm_M) := match n with
 | 0 => fun _ _ _ => none
 | n + 1 => f_X12_read_17b F (f_X12_read_17 F n)
theorem j_X12_read_17 {sk : List sm_Sh} (hx : sm_ext skM sk) (F : Nat) : ∀ (n : Nat) (x1 : Int32) (x2 : Int32) (M : sm_M) (r : Int32 × sm_M), f_X12_read_17 F n x1 x2 M = some r → sm_J (md_X12_read, 2, sk, .inl (some (.int r.1)), r.2) 17 [some (.ref 80), some (.int x1), some (.int x2)] [] M := by
  intro n
  induction n with
  | zero => intro x1 x2  M r h; exact nomatch (show (none : Option (Int32 × sm_M)) = some r from h)
  | succ n ih => exact j_X12_read_17b hx F (f_X12_read_17 F n) ih
def f_X12_read (F : Nat) (M : sm_M) : Option (Int32 × sm_M) := f_X12_read_17 F F (((sm_mi M 80 0 (0 : Int32))).1 80 18) (0 : Int32) ((sm_mi (sm_mi M 80 0 (0 : Int32)) 80 18 (0 : Int32)))
set_option maxRecDepth 100000 in
set_option maxHeartbeats 4000000 in
theorem j_X12_read {sk : List sm_Sh} (hx : sm_ext skM sk) (F : Nat) : ∀ (M : sm_M) (r : Int32 × sm_M), f_X12_read F M = some r → sm_J (md_X12_read, 2, sk, .inl (some (.int r.1)), r.2) 0 [some (.ref 80), none, none] [] M := by
  intro   M r h
  unfold f_X12_read at h
  refine sm_aload_n (q := 1) d_X12_read_0 rfl rfl ?_
  refine sm_iconst (q := 2) d_X12_read_1 rfl ci_0 ?_
  refine sm_puti (q := 5) d_X12_read_2 rfl fw_X12_1 (hx sx_80) rfl rfl rfl ?_
  refine sm_aload_n (q := 6) d_X12_read_5 rfl rfl ?_
  refine sm_geti (q := 9) d_X12_read_6 rfl fl_X12_148 (hx sx_80) rfl ?_
  refine sm_istore_n (q := 10) (lt := [some (.ref 80), some (.int (((sm_mi M 80 0 (0 : Int32))).1 80 18)), none]) d_X12_read_9 rfl (Nat.le_of_ble_eq_true rfl) rfl rfl ?_
  refine sm_aload_n (q := 11) d_X12_read_10 rfl rfl ?_
  refine sm_iconst (q := 12) d_X12_read_11 rfl ci_0 ?_
  refine sm_puti (q := 15) d_X12_read_12 rfl fw_X12_148 (hx sx_80) rfl rfl rfl ?_
  refine sm_iconst (q := 16) d_X12_read_15 rfl ci_0 ?_
  refine sm_istore_n (q := 17) (lt := [some (.ref 80), some (.int (((sm_mi M 80 0 (0 : Int32))).1 80 18)), some (.int (0 : Int32))]) d_X12_read_16 rfl (Nat.le_of_ble_eq_true rfl) rfl rfl ?_
  exact j_X12_read_17 hx F F (((sm_mi M 80 0 (0 : Int32))).1 80 18) (0 : Int32) ((sm_mi (sm_mi M 80 0 (0 : Int32)) 80 18 (0 : Int32))) _ h
theorem c_X12_read {sk : List sm_Sh} (hx : sm_ext skM sk) (F : Nat) (M : sm_M) (r : Int32 × sm_M) (h : f_X12_read F M = some r) : sm_Ct yX12_read md_X12_read 2 sk [.ref 80] M (.inl (some (.int r.1))) r.2 := sm_enter 2 pn_X12 rfl (Nat.le_of_ble_eq_true rfl) rfl (j_X12_read hx F M r h)
/-! UniversalCyclesModel.write()I -/
theorem d_X12_write_0 : decode cX12_write 0 = .ok (.aload_n 0, 1) := by decide +kernel
theorem d_X12_write_1 : decode cX12_write 1 = .ok (.iconst 0, 1) := by decide +kernel
theorem d_X12_write_2 : decode cX12_write 2 = .ok (.putfield 1, 3) := by decide +kernel
theorem d_X12_write_5 : decode cX12_write 5 = .ok (.aload_n 0, 1) := by decide +kernel
theorem d_X12_write_6 : decode cX12_write 6 = .ok (.aload_n 0, 1) := by decide +kernel
theorem d_X12_write_7 : decode cX12_write 7 = .ok (.getfield 125, 3) := by decide +kernel
theorem d_X12_write_10 : decode cX12_write 10 = .ok (.putfield 151, 3) := by decide +kernel
theorem d_X12_write_13 : decode cX12_write 13 = .ok (.iconst 0, 1) := by decide +kernel
theorem d_X12_write_14 : decode cX12_write 14 = .ok (.istore_n 1, 1) := by decide +kernel
theorem d_X12_write_15 : decode cX12_write 15 = .ok (.iload_n 1, 1) := by decide +kernel
theorem d_X12_write_16 : decode cX12_write 16 = .ok (.aload_n 0, 1) := by decide +kernel
theorem d_X12_write_17 : decode cX12_write 17 = .ok (.getfield 125, 3) := by decide +kernel
theorem d_X12_write_20 : decode cX12_write 20 = .ok (.if_icmp .ge 25, 3) := by decide +kernel
theorem d_X12_write_23 : decode cX12_write 23 = .ok (.aload_n 0, 1) := by decide +kernel
theorem d_X12_write_24 : decode cX12_write 24 = .ok (.getfield 52, 3) := by decide +kernel
theorem d_X12_write_27 : decode cX12_write 27 = .ok (.iload_n 1, 1) := by decide +kernel
theorem d_X12_write_28 : decode cX12_write 28 = .ok (.bipush 48, 2) := by decide +kernel
theorem d_X12_write_30 : decode cX12_write 30 = .ok (.aload_n 0, 1) := by decide +kernel
theorem d_X12_write_31 : decode cX12_write 31 = .ok (.getfield 36, 3) := by decide +kernel
theorem d_X12_write_34 : decode cX12_write 34 = .ok (.iload_n 1, 1) := by decide +kernel
theorem d_X12_write_35 : decode cX12_write 35 = .ok (.iaload, 1) := by decide +kernel
theorem d_X12_write_36 : decode cX12_write 36 = .ok (.iadd, 1) := by decide +kernel
theorem d_X12_write_37 : decode cX12_write 37 = .ok (.i2c, 1) := by decide +kernel
theorem d_X12_write_38 : decode cX12_write 38 = .ok (.castore, 1) := by decide +kernel
theorem d_X12_write_39 : decode cX12_write 39 = .ok (.iinc 1 1, 3) := by decide +kernel
theorem d_X12_write_42 : decode cX12_write 42 = .ok (.goto (-27), 3) := by decide +kernel
theorem d_X12_write_45 : decode cX12_write 45 = .ok (.aload_n 0, 1) := by decide +kernel
theorem d_X12_write_46 : decode cX12_write 46 = .ok (.getfield 125, 3) := by decide +kernel
theorem d_X12_write_49 : decode cX12_write 49 = .ok (.ireturn, 1) := by decide +kernel
def f_X12_write_15b (F : Nat) (kb15 : Int32 → sm_M → Option (Int32 × sm_M)) (x1 : Int32) (M : sm_M) : Option (Int32 × sm_M) := if (M.1 80 12) ≤ x1 then (some ((M.1 80 12), M)) else (sm_g (sm_ib x1 240) (sm_g (sm_ib x1 240) (kb15 (x1 + 1) ((sm_mi M 91 x1.toNatClampNeg (vp_nar .char (((48 : Int32) + (M.1 86 x1.toNatClampNeg)).toUInt32 % 65536).toInt32))))))
set_option maxRecDepth 100000 in
set_option maxHeartbeats 4000000 in
theorem j_X12_write_15b {sk : List sm_Sh} (hx : sm_ext skM sk) (F : Nat) (kb15 : Int32 → sm_M → Option (Int32 × sm_M)) (hkb15 : ∀ (x1 : Int32) (M : sm_M) (r : Int32 × sm_M), kb15 x1 M = some r → sm_J (md_X12_write, 0, sk, .inl (some (.int r.1)), r.2) 15 [some (.ref 80), some (.int x1)] [] M) : ∀ (x1 : Int32) (M : sm_M) (r : Int32 × sm_M), f_X12_write_15b F kb15 x1 M = some r → sm_J (md_X12_write, 0, sk, .inl (some (.int r.1)), r.2) 15 [some (.ref 80), some (.int x1)] [] M := by
  intro x1  M r h
  unfold f_X12_write_15b at h
  refine sm_iload_n (q := 16) d_X12_write_15 rfl rfl ?_
  refine sm_aload_n (q := 17) d_X12_write_16 rfl rfl ?_
  refine sm_geti (q := 20) d_X12_write_17 rfl fl_X12_125 (hx sx_80) rfl ?_
  refine sm_icmp_ge (q := 23) (t := 45) d_X12_write_20 rfl rfl (fun c1 => ?_) (fun c1 => ?_)
  · replace h := sm_it c1 h
    refine sm_aload_n (q := 46) d_X12_write_45 rfl rfl ?_
    refine sm_geti (q := 49) d_X12_write_46 rfl fl_X12_125 (hx sx_80) rfl ?_
    obtain rfl := Option.some.inj h
    exact sm_iret d_X12_write_49 rfl rfl rfl rfl
  · replace h := sm_if c1 h
    refine sm_aload_n (q := 24) d_X12_write_23 rfl rfl ?_
    refine sm_getr (q := 27) d_X12_write_24 rfl fl_X12_52 (hx sx_80) rfl ?_
    refine sm_iload_n (q := 28) d_X12_write_27 rfl rfl ?_
    refine sm_bipush (q := 30) d_X12_write_28 rfl cb_48 ?_
    refine sm_aload_n (q := 31) d_X12_write_30 rfl rfl ?_
    refine sm_getr (q := 34) d_X12_write_31 rfl fl_X12_36 (hx sx_80) rfl ?_
    refine sm_iload_n (q := 35) d_X12_write_34 rfl rfl ?_
    obtain ⟨g2, h⟩ := sm_gt h
    refine sm_iaload (q := 36) d_X12_write_35 rfl (hx sx_86) (sm_ib_of g2) ?_
    refine sm_iadd (q := 37) d_X12_write_36 rfl ?_
    refine sm_i2c (q := 38) d_X12_write_37 rfl ?_
    obtain ⟨g3, h⟩ := sm_gt h
    refine sm_castore (q := 39) d_X12_write_38 rfl (hx sx_91) (sm_ib_of g3) ?_
    refine sm_iinc (q := 42) (v := (x1 + 1)) (lt := [some (.ref 80), some (.int (x1 + 1))]) d_X12_write_39 rfl rfl (ii_1 _) (Nat.le_of_ble_eq_true rfl) rfl rfl ?_
    refine sm_goto (t := 15) d_X12_write_42 rfl ?_
    exact hkb15 (x1 + 1) ((sm_mi M 91 x1.toNatClampNeg (vp_nar .char (((48 : Int32) + (M.1 86 x1.toNatClampNeg)).toUInt32 % 65536).toInt32))) _ h
def f_X12_write_15 (F : Nat) (n : Nat) : Int32 → sm_M → Option (Int32 × sm_M) := match n with
 | 0 => fun _ _ => none
 | n + 1 => f_X12_write_15b F (f_X12_write_15 F n)
theorem j_X12_write_15 {sk : List sm_Sh} (hx : sm_ext skM sk) (F : Nat) : ∀ (n : Nat) (x1 : Int32) (M : sm_M) (r : Int32 × sm_M), f_X12_write_15 F n x1 M = some r → sm_J (md_X12_write, 0, sk, .inl (some (.int r.1)), r.2) 15 [some (.ref 80), some (.int x1)] [] M := by
  intro n
  induction n with
  | zero => intro x1  M r h; exact nomatch (show (none : Option (Int32 × sm_M)) = some r from h)
  | succ n ih => exact j_X12_write_15b hx F (f_X12_write_15 F n) ih
def f_X12_write (F : Nat) (M : sm_M) : Option (Int32 × sm_M) := f_X12_write_15 F F (0 : Int32) ((sm_mi (sm_mi M 80 0 (0 : Int32)) 80 20 (((sm_mi M 80 0 (0 : Int32))).1 80 12)))
set_option maxRecDepth 100000 in
set_option maxHeartbeats 4000000 in
theorem j_X12_write {sk : List sm_Sh} (hx : sm_ext skM sk) (F : Nat) : ∀ (M : sm_M) (r : Int32 × sm_M), f_X12_write F M = some r → sm_J (md_X12_write, 0, sk, .inl (some (.int r.1)), r.2) 0 [some (.ref 80), none] [] M := by
  intro   M r h
  unfold f_X12_write at h
  refine sm_aload_n (q := 1) d_X12_write_0 rfl rfl ?_
  refine sm_iconst (q := 2) d_X12_write_1 rfl ci_0 ?_
  refine sm_puti (q := 5) d_X12_write_2 rfl fw_X12_1 (hx sx_80) rfl rfl rfl ?_
  refine sm_aload_n (q := 6) d_X12_write_5 rfl rfl ?_
  refine sm_aload_n (q := 7) d_X12_write_6 rfl rfl ?_
  refine sm_geti (q := 10) d_X12_write_7 rfl fl_X12_125 (hx sx_80) rfl ?_
  refine sm_puti (q := 13) d_X12_write_10 rfl fw_X12_151 (hx sx_80) rfl rfl rfl ?_
  refine sm_iconst (q := 14) d_X12_write_13 rfl ci_0 ?_
  refine sm_istore_n (q := 15) (lt := [some (.ref 80), some (.int (0 : Int32))]) d_X12_write_14 rfl (Nat.le_of_ble_eq_true rfl) rfl rfl ?_
  exact j_X12_write_15 hx F F (0 : Int32) ((sm_mi (sm_mi M 80 0 (0 : Int32)) 80 20 (((sm_mi M 80 0 (0 : Int32))).1 80 12))) _ h
theorem c_X12_write {sk : List sm_Sh} (hx : sm_ext skM sk) (F : Nat) (M : sm_M) (r : Int32 × sm_M) (h : f_X12_write F M = some r) : sm_Ct yX12_write md_X12_write 0 sk [.ref 80] M (.inl (some (.int r.1))) r.2 := sm_enter 1 pn_X12 rfl (Nat.le_of_ble_eq_true rfl) rfl (j_X12_write hx F M r h)
/-! UniversalCyclesModel.outputAt(I)C -/
theorem d_X12_outputAt_0 : decode cX12_outputAt 0 = .ok (.aload_n 0, 1) := by decide +kernel
theorem d_X12_outputAt_1 : decode cX12_outputAt 1 = .ok (.iconst 0, 1) := by decide +kernel
theorem d_X12_outputAt_2 : decode cX12_outputAt 2 = .ok (.putfield 1, 3) := by decide +kernel
theorem d_X12_outputAt_5 : decode cX12_outputAt 5 = .ok (.iload_n 1, 1) := by decide +kernel
theorem d_X12_outputAt_6 : decode cX12_outputAt 6 = .ok (.iconst 0, 1) := by decide +kernel
theorem d_X12_outputAt_7 : decode cX12_outputAt 7 = .ok (.aload_n 0, 1) := by decide +kernel
theorem d_X12_outputAt_8 : decode cX12_outputAt 8 = .ok (.getfield 151, 3) := by decide +kernel
theorem d_X12_outputAt_11 : decode cX12_outputAt 11 = .ok (.iconst 1, 1) := by decide +kernel
theorem d_X12_outputAt_12 : decode cX12_outputAt 12 = .ok (.isub, 1) := by decide +kernel
theorem d_X12_outputAt_13 : decode cX12_outputAt 13 = .ok (.invokestatic 115, 3) := by decide +kernel
theorem d_X12_outputAt_16 : decode cX12_outputAt 16 = .ok (.ifCond .eq 12, 3) := by decide +kernel
theorem d_X12_outputAt_19 : decode cX12_outputAt 19 = .ok (.aload_n 0, 1) := by decide +kernel
theorem d_X12_outputAt_20 : decode cX12_outputAt 20 = .ok (.getfield 52, 3) := by decide +kernel
theorem d_X12_outputAt_23 : decode cX12_outputAt 23 = .ok (.iload_n 1, 1) := by decide +kernel
theorem d_X12_outputAt_24 : decode cX12_outputAt 24 = .ok (.caload, 1) := by decide +kernel
theorem d_X12_outputAt_25 : decode cX12_outputAt 25 = .ok (.goto 9, 3) := by decide +kernel
theorem d_X12_outputAt_28 : decode cX12_outputAt 28 = .ok (.aload_n 0, 1) := by decide +kernel
theorem d_X12_outputAt_29 : decode cX12_outputAt 29 = .ok (.iconst 1, 1) := by decide +kernel
theorem d_X12_outputAt_30 : decode cX12_outputAt 30 = .ok (.invokevirtual 122, 3) := by decide +kernel
theorem d_X12_outputAt_33 : decode cX12_outputAt 33 = .ok (.i2c, 1) := by decide +kernel
theorem d_X12_outputAt_34 : decode cX12_outputAt 34 = .ok (.ireturn, 1) := by decide +kernel
def f_X12_outputAt_34 (F : Nat) (y0 : Int32) (M : sm_M) : Option (Int32 × sm_M) := sm_g (sm_nar .char y0) (some (y0, M))
set_option maxRecDepth 100000 in
set_option maxHeartbeats 4000000 in
theorem j_X12_outputAt_34 {sk : List sm_Sh} (hx : sm_ext skM sk) (F : Nat) : ∀ (y0 : Int32) (M : sm_M) (r : Int32 × sm_M), f_X12_outputAt_34 F y0 M = some r → sm_J (md_X12_outputAt, 1, sk, .inl (some (.int r.1)), r.2) 34 [none, none] [.int y0] M := by
  intro y0  M r h
  unfold f_X12_outputAt_34 at h
  obtain ⟨g1, h⟩ := sm_gt h
  obtain rfl := Option.some.inj h
  exact sm_iret d_X12_outputAt_34 rfl (sm_nar_of g1).1 rfl rfl
def f_X12_outputAt (F : Nat) (x1 : Int32) (M : sm_M) : Option (Int32 × sm_M) := (f_X12_isIn F x1 (0 : Int32) ((((sm_mi M 80 0 (0 : Int32))).1 80 20) - (1 : Int32)) (sm_mi M 80 0 (0 : Int32))).bind fun q1 => if q1 = 0 then ((f_X12_fail F (1 : Int32) (sm_mi M 80 0 (0 : Int32))).bind fun q3 => f_X12_outputAt_34 F (q3.1.toUInt32 % 65536).toInt32 q3.2) else (sm_g (sm_ib x1 240) (f_X12_outputAt_34 F ((sm_mi M 80 0 (0 : Int32)).1 91 x1.toNatClampNeg) ((sm_mi M 80 0 (0 : Int32)))))
set_option maxRecDepth 100000 in
set_option maxHeartbeats 4000000 in
theorem j_X12_outputAt {sk : List sm_Sh} (hx : sm_ext skM sk) (F : Nat) : ∀ (x1 : Int32) (M : sm_M) (r : Int32 × sm_M), f_X12_outputAt F x1 M = some r → sm_J (md_X12_outputAt, 1, sk, .inl (some (.int r.1)), r.2) 0 [some (.ref 80), some (.int x1)] [] M := by
  intro x1  M r h
  unfold f_X12_outputAt at h
  refine sm_aload_n (q := 1) d_X12_outputAt_0 rfl rfl ?_
  refine sm_iconst (q := 2) d_X12_outputAt_1 rfl ci_0 ?_
  refine sm_puti (q := 5) d_X12_outputAt_2 rfl fw_X12_1 (hx sx_80) rfl rfl rfl ?_
  refine sm_iload_n (q := 6) d_X12_outputAt_5 rfl rfl ?_
  refine sm_iconst (q := 7) d_X12_outputAt_6 rfl ci_0 ?_
  refine sm_aload_n (q := 8) d_X12_outputAt_7 rfl rfl ?_
  refine sm_geti (q := 11) d_X12_outputAt_8 rfl fl_X12_151 (hx sx_80) rfl ?_
  refine sm_iconst (q := 12) d_X12_outputAt_11 rfl ci_1 ?_
  refine sm_isub (q := 13) d_X12_outputAt_12 rfl ?_
  obtain ⟨q1, e1, h⟩ := sm_bd h
  refine sm_callS (q := 16) (d' := 0) [] [.int x1, .int (0 : Int32), .int ((((sm_mi M 80 0 (0 : Int32))).1 80 20) - (1 : Int32))] d_X12_outputAt_13 rfl lk_X12_115 rfl (Nat.le_of_ble_eq_true rfl) (Nat.le_of_ble_eq_true rfl) (c_X12_isIn hx F x1 (0 : Int32) ((((sm_mi M 80 0 (0 : Int32))).1 80 20) - (1 : Int32)) (sm_mi M 80 0 (0 : Int32)) _ e1) (st9 := [.int q1]) rfl ?_
  refine sm_if_eq (q := 19) (t := 28) d_X12_outputAt_16 rfl rfl (fun c2 => ?_) (fun c2 => ?_)
  · replace h := sm_it c2 h
    refine sm_aload_n (q := 29) d_X12_outputAt_28 rfl rfl ?_
    refine sm_iconst (q := 30) d_X12_outputAt_29 rfl ci_1 ?_
    obtain ⟨q3, e3, h⟩ := sm_bd h
    refine sm_callV (q := 33) (d' := 0) [] [.int (1 : Int32)] d_X12_outputAt_30 rfl lk_X12_122 (hx sx_80) rfl rfl rfl (Nat.le_of_ble_eq_true rfl) (Nat.le_of_ble_eq_true rfl) (c_X12_fail hx F (1 : Int32) (sm_mi M 80 0 (0 : Int32)) _ e3) (st9 := [.int q3.1]) rfl ?_
    refine sm_i2c (q := 34) d_X12_outputAt_33 rfl ?_
    refine sm_fg [0, 1] ?_
    exact j_X12_outputAt_34 hx F (q3.1.toUInt32 % 65536).toInt32 q3.2 _ h
  · replace h := sm_if c2 h
    refine sm_aload_n (q := 20) d_X12_outputAt_19 rfl rfl ?_
    refine sm_getr (q := 23) d_X12_outputAt_20 rfl fl_X12_52 (hx sx_80) rfl ?_
    refine sm_iload_n (q := 24) d_X12_outputAt_23 rfl rfl ?_
    obtain ⟨g4, h⟩ := sm_gt h
    refine sm_caload (q := 25) d_X12_outputAt_24 rfl (hx sx_91) (sm_ib_of g4) ?_
    refine sm_goto (t := 34) d_X12_outputAt_25 rfl ?_
    refine sm_fg [0, 1] ?_
    exact j_X12_outputAt_34 hx F ((sm_mi M 80 0 (0 : Int32)).1 91 x1.toNatClampNeg) ((sm_mi M 80 0 (0 : Int32))) _ h
theorem c_X12_outputAt {sk : List sm_Sh} (hx : sm_ext skM sk) (F : Nat) (x1 : Int32) (M : sm_M) (r : Int32 × sm_M) (h : f_X12_outputAt F x1 M = some r) : sm_Ct yX12_outputAt md_X12_outputAt 1 sk [.ref 80, .int x1] M (.inl (some (.int r.1))) r.2 := sm_enter 0 pn_X12 rfl (Nat.le_of_ble_eq_true rfl) rfl (j_X12_outputAt hx F x1 M r h)
/-! UniversalCyclesModel.sortedCode()I -/
theorem d_X12_sortedCode_0 : decode cX12_sortedCode 0 = .ok (.iconst 0, 1) := by decide +kernel
theorem d_X12_sortedCode_1 : decode cX12_sortedCode 1 = .ok (.istore_n 1, 1) := by decide +kernel
theorem d_X12_sortedCode_2 : decode cX12_sortedCode 2 = .ok (.iconst 0, 1) := by decide +kernel
theorem d_X12_sortedCode_3 : decode cX12_sortedCode 3 = .ok (.istore_n 2, 1) := by decide +kernel
theorem d_X12_sortedCode_4 : decode cX12_sortedCode 4 = .ok (.iload_n 2, 1) := by decide +kernel
theorem d_X12_sortedCode_5 : decode cX12_sortedCode 5 = .ok (.aload_n 0, 1) := by decide +kernel
theorem d_X12_sortedCode_6 : decode cX12_sortedCode 6 = .ok (.getfield 16, 3) := by decide +kernel
theorem d_X12_sortedCode_9 : decode cX12_sortedCode 9 = .ok (.if_icmp .ge 46, 3) := by decide +kernel
theorem d_X12_sortedCode_12 : decode cX12_sortedCode 12 = .ok (.iconst 0, 1) := by decide +kernel
theorem d_X12_sortedCode_13 : decode cX12_sortedCode 13 = .ok (.istore_n 3, 1) := by decide +kernel
theorem d_X12_sortedCode_14 : decode cX12_sortedCode 14 = .ok (.iload_n 3, 1) := by decide +kernel
theorem d_X12_sortedCode_15 : decode cX12_sortedCode 15 = .ok (.aload_n 0, 1) := by decide +kernel
theorem d_X12_sortedCode_16 : decode cX12_sortedCode 16 = .ok (.getfield 13, 3) := by decide +kernel
theorem d_X12_sortedCode_19 : decode cX12_sortedCode 19 = .ok (.if_icmp .ge 30, 3) := by decide +kernel
theorem d_X12_sortedCode_22 : decode cX12_sortedCode 22 = .ok (.aload_n 0, 1) := by decide +kernel
theorem d_X12_sortedCode_23 : decode cX12_sortedCode 23 = .ok (.getfield 55, 3) := by decide +kernel
theorem d_X12_sortedCode_26 : decode cX12_sortedCode 26 = .ok (.iload_n 3, 1) := by decide +kernel
theorem d_X12_sortedCode_27 : decode cX12_sortedCode 27 = .ok (.iaload, 1) := by decide +kernel
theorem d_X12_sortedCode_28 : decode cX12_sortedCode 28 = .ok (.iload_n 2, 1) := by decide +kernel
theorem d_X12_sortedCode_29 : decode cX12_sortedCode 29 = .ok (.if_icmp .ne 12, 3) := by decide +kernel
theorem d_X12_sortedCode_32 : decode cX12_sortedCode 32 = .ok (.bipush 8, 2) := by decide +kernel
theorem d_X12_sortedCode_34 : decode cX12_sortedCode 34 = .ok (.iload_n 1, 1) := by decide +kernel
theorem d_X12_sortedCode_35 : decode cX12_sortedCode 35 = .ok (.imul, 1) := by decide +kernel
theorem d_X12_sortedCode_36 : decode cX12_sortedCode 36 = .ok (.iload_n 2, 1) := by decide +kernel
theorem d_X12_sortedCode_37 : decode cX12_sortedCode 37 = .ok (.iadd, 1) := by decide +kernel
theorem d_X12_sortedCode_38 : decode cX12_sortedCode 38 = .ok (.goto 4, 3) := by decide +kernel
theorem d_X12_sortedCode_41 : decode cX12_sortedCode 41 = .ok (.iload_n 1, 1) := by decide +kernel
theorem d_X12_sortedCode_42 : decode cX12_sortedCode 42 = .ok (.istore_n 1, 1) := by decide +kernel
theorem d_X12_sortedCode_43 : decode cX12_sortedCode 43 = .ok (.iinc 3 1, 3) := by decide +kernel
theorem d_X12_sortedCode_46 : decode cX12_sortedCode 46 = .ok (.goto (-32), 3) := by decide +kernel
theorem d_X12_sortedCode_49 : decode cX12_sortedCode 49 = .ok (.iinc 2 1, 3) := by decide +kernel
theorem d_X12_sortedCode_52 : decode cX12_sortedCode 52 = .ok (.goto (-48), 3) := by decide +kernel
theorem d_X12_sortedCode_55 : decode cX12_sortedCode 55 = .ok (.iload_n 1, 1) := by decide +kernel
theorem d_X12_sortedCode_56 : decode cX12_sortedCode 56 = .ok (.ireturn, 1) := by decide +kernel
def f_X12_sortedCode_42 (F : Nat) (kb4 : Int32 → Int32 → sm_M → Option (Int32)) (kb14 : Int32 → Int32 → Int32 → sm_M → Option (Int32)) (x2 : Int32) (x3 : Int32) (y0 : Int32) (M : sm_M) : Option (Int32) := kb14 y0 x2 (x3 + 1) M
set_option maxRecDepth 100000 in
set_option maxHeartbeats 4000000 in
theorem j_X12_sortedCode_42 {sk : List sm_Sh} (hx : sm_ext skM sk) (F : Nat) (kb4 : Int32 → Int32 → sm_M → Option (Int32)) (kb14 : Int32 → Int32 → Int32 → sm_M → Option (Int32)) (hkb4 : ∀ (x1 : Int32) (x2 : Int32) (M : sm_M) (r : Int32), kb4 x1 x2 M = some r → sm_J (md_X12_sortedCode, 0, sk, .inl (some (.int r)), M) 4 [some (.ref 80), some (.int x1), some (.int x2), none] [] M) (hkb14 : ∀ (x1 : Int32) (x2 : Int32) (x3 : Int32) (M : sm_M) (r : Int32), kb14 x1 x2 x3 M = some r → sm_J (md_X12_sortedCode, 0, sk, .inl (some (.int r)), M) 14 [some (.ref 80), some (.int x1), some (.int x2), some (.int x3)] [] M) : ∀ (x2 : Int32) (x3 : Int32) (y0 : Int32) (M : sm_M) (r : Int32), f_X12_sortedCode_42 F kb4 kb14 x2 x3 y0 M = some r → sm_J (md_X12_sortedCode, 0, sk, .inl (some (.int r)), M) 42 [some (.ref 80), none, some (.int x2), some (.int x3)] [.int y0] M := by
  intro x2 x3 y0  M r h
  unfold f_X12_sortedCode_42 at h
  refine sm_istore_n (q := 43) (lt := [some (.ref 80), some (.int y0), some (.int x2), some (.int x3)]) d_X12_sortedCode_42 rfl (Nat.le_of_ble_eq_true rfl) rfl rfl ?_
  refine sm_iinc (q := 46) (v := (x3 + 1)) (lt := [some (.ref 80), some (.int y0), some (.int x2), some (.int (x3 + 1))]) d_X12_sortedCode_43 rfl rfl (ii_1 _) (Nat.le_of_ble_eq_true rfl) rfl rfl ?_
  refine sm_goto (t := 14) d_X12_sortedCode_46 rfl ?_
  exact hkb14 y0 x2 (x3 + 1) M _ h
def f_X12_sortedCode_14b (F : Nat) (kb4 : Int32 → Int32 → sm_M → Option (Int32)) (kb14 : Int32 → Int32 → Int32 → sm_M → Option (Int32)) (x1 : Int32) (x2 : Int32) (x3 : Int32) (M : sm_M) : Option (Int32) := if (M.1 80 2) ≤ x3 then (kb4 x1 (x2 + 1) M) else (sm_g (sm_ib x3 5) (if (M.1 92 x3.toNatClampNeg) = x2 then (f_X12_sortedCode_42 F kb4 kb14 x2 x3 (((8 : Int32) * x1) + x2) M) else (f_X12_sortedCode_42 F kb4 kb14 x2 x3 x1 M)))
set_option maxRecDepth 100000 in
set_option maxHeartbeats 4000000 in
theorem j_X12_sortedCode_14b {sk : List sm_Sh} (hx : sm_ext skM sk) (F : Nat) (kb4 : Int32 → Int32 → sm_M → Option (Int32)) (kb14 : Int32 → Int32 → Int32 → sm_M → Option (Int32)) (hkb4 : ∀ (x1 : Int32) (x2 : Int32) (M : sm_M) (r : Int32), kb4 x1 x2 M = some r → sm_J (md_X12_sortedCode, 0, sk, .inl (some (.int r)), M) 4 [some (.ref 80), some (.int x1), some (.int x2), none] [] M) (hkb14 : ∀ (x1 : Int32) (x2 : Int32) (x3 : Int32) (M : sm_M) (r : Int32), kb14 x1 x2 x3 M = some r → sm_J (md_X12_sortedCode, 0, sk, .inl (some (.int r)), M) 14 [some (.ref 80), some (.int x1), some (.int x2), some (.int x3)] [] M) : ∀ (x1 : Int32) (x2 : Int32) (x3 : Int32) (M : sm_M) (r : Int32), f_X12_sortedCode_14b F kb4 kb14 x1 x2 x3 M = some r → sm_J (md_X12_sortedCode, 0, sk, .inl (some (.int r)), M) 14 [some (.ref 80), some (.int x1), some (.int x2), some (.int x3)] [] M := by
  intro x1 x2 x3  M r h
  unfold f_X12_sortedCode_14b at h
  refine sm_iload_n (q := 15) d_X12_sortedCode_14 rfl rfl ?_
  refine sm_aload_n (q := 16) d_X12_sortedCode_15 rfl rfl ?_
  refine sm_geti (q := 19) d_X12_sortedCode_16 rfl fl_X12_13 (hx sx_80) rfl ?_
  refine sm_icmp_ge (q := 22) (t := 49) d_X12_sortedCode_19 rfl rfl (fun c1 => ?_) (fun c1 => ?_)
  · replace h := sm_it c1 h
    refine sm_iinc (q := 52) (v := (x2 + 1)) (lt := [some (.ref 80), some (.int x1), some (.int (x2 + 1)), some (.int x3)]) d_X12_sortedCode_49 rfl rfl (ii_1 _) (Nat.le_of_ble_eq_true rfl) rfl rfl ?_
    refine sm_goto (t := 4) d_X12_sortedCode_52 rfl ?_
    refine sm_fg [3] ?_
    exact hkb4 x1 (x2 + 1) M _ h
  · replace h := sm_if c1 h
    refine sm_aload_n (q := 23) d_X12_sortedCode_22 rfl rfl ?_
    refine sm_getr (q := 26) d_X12_sortedCode_23 rfl fl_X12_55 (hx sx_80) rfl ?_
    refine sm_iload_n (q := 27) d_X12_sortedCode_26 rfl rfl ?_
    obtain ⟨g2, h⟩ := sm_gt h
    refine sm_iaload (q := 28) d_X12_sortedCode_27 rfl (hx sx_92) (sm_ib_of g2) ?_
    refine sm_iload_n (q := 29) d_X12_sortedCode_28 rfl rfl ?_
    refine sm_icmp_ne (q := 32) (t := 41) d_X12_sortedCode_29 rfl rfl (fun c3 => ?_) (fun c3 => ?_)
    · replace h := sm_if c3 h
      refine sm_iload_n (q := 42) d_X12_sortedCode_41 rfl rfl ?_
      refine sm_fg [1] ?_
      exact j_X12_sortedCode_42 hx F kb4 kb14 hkb4 hkb14 x2 x3 x1 M _ h
    · replace h := sm_it c3 h
      refine sm_bipush (q := 34) d_X12_sortedCode_32 rfl cb_8 ?_
      refine sm_iload_n (q := 35) d_X12_sortedCode_34 rfl rfl ?_
      refine sm_imul (q := 36) d_X12_sortedCode_35 rfl ?_
      refine sm_iload_n (q := 37) d_X12_sortedCode_36 rfl rfl ?_
      refine sm_iadd (q := 38) d_X12_sortedCode_37 rfl ?_
      refine sm_goto (t := 42) d_X12_sortedCode_38 rfl ?_
      refine sm_fg [1] ?_
      exact j_X12_sortedCode_42 hx F kb4 kb14 hkb4 hkb14 x2 x3 (((8 : Int32) * x1) + x2) M _ h
def f_X12_sortedCode_14 (F : Nat) (kb4 : Int32 → Int32 → sm_M → Option (Int32)) (n : Nat) : Int32 → Int32 → Int32 → sm_M → Option (Int32) := match n with
 | 0 => fun _ _ _ _ => none
 | n + 1 => f_X12_sortedCode_14b F kb4 (f_X12_sortedCode_14 F kb4 n)
theorem j_X12_sortedCode_14 {sk : List sm_Sh} (hx : sm_ext skM sk) (F : Nat) (kb4 : Int32 → Int32 → sm_M → Option (Int32)) (hkb4 : ∀ (x1 : Int32) (x2 : Int32) (M : sm_M) (r : Int32), kb4 x1 x2 M = some r → sm_J (md_X12_sortedCode, 0, sk, .inl (some (.int r)), M) 4 [some (.ref 80), some (.int x1), some (.int x2), none] [] M) : ∀ (n : Nat) (x1 : Int32) (x2 : Int32) (x3 : Int32) (M : sm_M) (r : Int32), f_X12_sortedCode_14 F kb4 n x1 x2 x3 M = some r → sm_J (md_X12_sortedCode, 0, sk, .inl (some (.int r)), M) 14 [some (.ref 80), some (.int x1), some (.int x2), some (.int x3)] [] M := by
  intro n
  induction n with
  | zero => intro x1 x2 x3  M r h; exact nomatch (show (none : Option (Int32)) = some r from h)
  | succ n ih => exact j_X12_sortedCode_14b hx F kb4 (f_X12_sortedCode_14 F kb4 n) hkb4 ih
def f_X12_sortedCode_4b (F : Nat) (kb4 : Int32 → Int32 → sm_M → Option (Int32)) (x1 : Int32) (x2 : Int32) (M : sm_M) : Option (Int32) := if (M.1 80 3) ≤ x2 then (some x1) else (f_X12_sortedCode_14 F kb4 F x1 x2 (0 : Int32) M)
set_option maxRecDepth 100000 in
set_option maxHeartbeats 4000000 in
theorem j_X12_sortedCode_4b {sk : List sm_Sh} (hx : sm_ext skM sk) (F : Nat) (kb4 : Int32 → Int32 → sm_M → Option (Int32)) (hkb4 : ∀ (x1 : Int32) (x2 : Int32) (M : sm_M) (r : Int32), kb4 x1 x2 M = some r → sm_J (md_X12_sortedCode, 0, sk, .inl (some (.int r)), M) 4 [some (.ref 80), some (.int x1), some (.int x2), none] [] M) : ∀ (x1 : Int32) (x2 : Int32) (M : sm_M) (r : Int32), f_X12_sortedCode_4b F kb4 x1 x2 M = some r → sm_J (md_X12_sortedCode, 0, sk, .inl (some (.int r)), M) 4 [some (.ref 80), some (.int x1), some (.int x2), none] [] M := by
  intro x1 x2  M r h
  unfold f_X12_sortedCode_4b at h
  refine sm_iload_n (q := 5) d_X12_sortedCode_4 rfl rfl ?_
  refine sm_aload_n (q := 6) d_X12_sortedCode_5 rfl rfl ?_
  refine sm_geti (q := 9) d_X12_sortedCode_6 rfl fl_X12_16 (hx sx_80) rfl ?_
  refine sm_icmp_ge (q := 12) (t := 55) d_X12_sortedCode_9 rfl rfl (fun c1 => ?_) (fun c1 => ?_)
  · replace h := sm_it c1 h
    refine sm_iload_n (q := 56) d_X12_sortedCode_55 rfl rfl ?_
    obtain rfl := Option.some.inj h
    exact sm_iret d_X12_sortedCode_56 rfl rfl rfl rfl
  · replace h := sm_if c1 h
    refine sm_iconst (q := 13) d_X12_sortedCode_12 rfl ci_0 ?_
    refine sm_istore_n (q := 14) (lt := [some (.ref 80), some (.int x1), some (.int x2), some (.int (0 : Int32))]) d_X12_sortedCode_13 rfl (Nat.le_of_ble_eq_true rfl) rfl rfl ?_
    exact j_X12_sortedCode_14 hx F kb4 hkb4 F x1 x2 (0 : Int32) M _ h
def f_X12_sortedCode_4 (F : Nat) (n : Nat) : Int32 → Int32 → sm_M → Option (Int32) := match n with
 | 0 => fun _ _ _ => none
 | n + 1 => f_X12_sortedCode_4b F (f_X12_sortedCode_4 F n)
theorem j_X12_sortedCode_4 {sk : List sm_Sh} (hx : sm_ext skM sk) (F : Nat) : ∀ (n : Nat) (x1 : Int32) (x2 : Int32) (M : sm_M) (r : Int32), f_X12_sortedCode_4 F n x1 x2 M = some r → sm_J (md_X12_sortedCode, 0, sk, .inl (some (.int r)), M) 4 [some (.ref 80), some (.int x1), some (.int x2), none] [] M := by
  intro n
  induction n with
  | zero => intro x1 x2  M r h; exact nomatch (show (none : Option (Int32)) = some r from h)
  | succ n ih => exact j_X12_sortedCode_4b hx F (f_X12_sortedCode_4 F n) ih
def f_X12_sortedCode (F : Nat) (M : sm_M) : Option (Int32) := f_X12_sortedCode_4 F F (0 : Int32) (0 : Int32) M
set_option maxRecDepth 100000 in
set_option maxHeartbeats 4000000 in
theorem j_X12_sortedCode {sk : List sm_Sh} (hx : sm_ext skM sk) (F : Nat) : ∀ (M : sm_M) (r : Int32), f_X12_sortedCode F M = some r → sm_J (md_X12_sortedCode, 0, sk, .inl (some (.int r)), M) 0 [some (.ref 80), none, none, none] [] M := by
  intro   M r h
  unfold f_X12_sortedCode at h
  refine sm_iconst (q := 1) d_X12_sortedCode_0 rfl ci_0 ?_
  refine sm_istore_n (q := 2) (lt := [some (.ref 80), some (.int (0 : Int32)), none, none]) d_X12_sortedCode_1 rfl (Nat.le_of_ble_eq_true rfl) rfl rfl ?_
  refine sm_iconst (q := 3) d_X12_sortedCode_2 rfl ci_0 ?_
  refine sm_istore_n (q := 4) (lt := [some (.ref 80), some (.int (0 : Int32)), some (.int (0 : Int32)), none]) d_X12_sortedCode_3 rfl (Nat.le_of_ble_eq_true rfl) rfl rfl ?_
  exact j_X12_sortedCode_4 hx F F (0 : Int32) (0 : Int32) M _ h
theorem c_X12_sortedCode {sk : List sm_Sh} (hx : sm_ext skM sk) (F : Nat) (M : sm_M) (r : Int32) (h : f_X12_sortedCode F M = some r) : sm_Ct yX12_sortedCode md_X12_sortedCode 0 sk [.ref 80] M (.inl (some (.int r))) M := sm_enter 3 pn_X12 rfl (Nat.le_of_ble_eq_true rfl) rfl (j_X12_sortedCode hx F M r h)
/-! UniversalCyclesModel.shown()I -/
theorem d_X12_shown_0 : decode cX12_shown 0 = .ok (.iconst 0, 1) := by decide +kernel
theorem d_X12_shown_1 : decode cX12_shown 1 = .ok (.istore_n 1, 1) := by decide +kernel
theorem d_X12_shown_2 : decode cX12_shown 2 = .ok (.iconst 0, 1) := by decide +kernel
theorem d_X12_shown_3 : decode cX12_shown 3 = .ok (.istore_n 2, 1) := by decide +kernel
theorem d_X12_shown_4 : decode cX12_shown 4 = .ok (.iload_n 2, 1) := by decide +kernel
theorem d_X12_shown_5 : decode cX12_shown 5 = .ok (.aload_n 0, 1) := by decide +kernel
theorem d_X12_shown_6 : decode cX12_shown 6 = .ok (.getfield 13, 3) := by decide +kernel
theorem d_X12_shown_9 : decode cX12_shown 9 = .ok (.if_icmp .ge 125, 3) := by decide +kernel
theorem d_X12_shown_12 : decode cX12_shown 12 = .ok (.iconst 0, 1) := by decide +kernel
theorem d_X12_shown_13 : decode cX12_shown 13 = .ok (.istore_n 3, 1) := by decide +kernel
theorem d_X12_shown_14 : decode cX12_shown 14 = .ok (.iconst 0, 1) := by decide +kernel
theorem d_X12_shown_15 : decode cX12_shown 15 = .ok (.istore 4, 2) := by decide +kernel
theorem d_X12_shown_17 : decode cX12_shown 17 = .ok (.iload 4, 2) := by decide +kernel
theorem d_X12_shown_19 : decode cX12_shown 19 = .ok (.aload_n 0, 1) := by decide +kernel
theorem d_X12_shown_20 : decode cX12_shown 20 = .ok (.getfield 13, 3) := by decide +kernel
theorem d_X12_shown_23 : decode cX12_shown 23 = .ok (.if_icmp .ge 64, 3) := by decide +kernel
theorem d_X12_shown_26 : decode cX12_shown 26 = .ok (.iload 4, 2) := by decide +kernel
theorem d_X12_shown_28 : decode cX12_shown 28 = .ok (.iload_n 2, 1) := by decide +kernel
theorem d_X12_shown_29 : decode cX12_shown 29 = .ok (.if_icmp .eq 28, 3) := by decide +kernel
theorem d_X12_shown_32 : decode cX12_shown 32 = .ok (.aload_n 0, 1) := by decide +kernel
theorem d_X12_shown_33 : decode cX12_shown 33 = .ok (.getfield 90, 3) := by decide +kernel
theorem d_X12_shown_36 : decode cX12_shown 36 = .ok (.ifCond .eq 21, 3) := by decide +kernel
theorem d_X12_shown_39 : decode cX12_shown 39 = .ok (.aload_n 0, 1) := by decide +kernel
theorem d_X12_shown_40 : decode cX12_shown 40 = .ok (.getfield 55, 3) := by decide +kernel
theorem d_X12_shown_43 : decode cX12_shown 43 = .ok (.iload 4, 2) := by decide +kernel
theorem d_X12_shown_45 : decode cX12_shown 45 = .ok (.iaload, 1) := by decide +kernel
theorem d_X12_shown_46 : decode cX12_shown 46 = .ok (.aload_n 0, 1) := by decide +kernel
theorem d_X12_shown_47 : decode cX12_shown 47 = .ok (.getfield 55, 3) := by decide +kernel
theorem d_X12_shown_50 : decode cX12_shown 50 = .ok (.iload_n 2, 1) := by decide +kernel
theorem d_X12_shown_51 : decode cX12_shown 51 = .ok (.iaload, 1) := by decide +kernel
theorem d_X12_shown_52 : decode cX12_shown 52 = .ok (.if_icmp .ne 5, 3) := by decide +kernel
theorem d_X12_shown_55 : decode cX12_shown 55 = .ok (.iconst (-1), 1) := by decide +kernel
theorem d_X12_shown_56 : decode cX12_shown 56 = .ok (.ireturn, 1) := by decide +kernel
theorem d_X12_shown_57 : decode cX12_shown 57 = .ok (.iload_n 3, 1) := by decide +kernel
theorem d_X12_shown_58 : decode cX12_shown 58 = .ok (.aload_n 0, 1) := by decide +kernel
theorem d_X12_shown_59 : decode cX12_shown 59 = .ok (.getfield 55, 3) := by decide +kernel
theorem d_X12_shown_62 : decode cX12_shown 62 = .ok (.iload 4, 2) := by decide +kernel
theorem d_X12_shown_64 : decode cX12_shown 64 = .ok (.iaload, 1) := by decide +kernel
theorem d_X12_shown_65 : decode cX12_shown 65 = .ok (.aload_n 0, 1) := by decide +kernel
theorem d_X12_shown_66 : decode cX12_shown 66 = .ok (.getfield 55, 3) := by decide +kernel
theorem d_X12_shown_69 : decode cX12_shown 69 = .ok (.iload_n 2, 1) := by decide +kernel
theorem d_X12_shown_70 : decode cX12_shown 70 = .ok (.iaload, 1) := by decide +kernel
theorem d_X12_shown_71 : decode cX12_shown 71 = .ok (.if_icmp .ge 7, 3) := by decide +kernel
theorem d_X12_shown_74 : decode cX12_shown 74 = .ok (.iconst 1, 1) := by decide +kernel
theorem d_X12_shown_75 : decode cX12_shown 75 = .ok (.goto 4, 3) := by decide +kernel
theorem d_X12_shown_78 : decode cX12_shown 78 = .ok (.iconst 0, 1) := by decide +kernel
theorem d_X12_shown_79 : decode cX12_shown 79 = .ok (.iadd, 1) := by decide +kernel
theorem d_X12_shown_80 : decode cX12_shown 80 = .ok (.istore_n 3, 1) := by decide +kernel
theorem d_X12_shown_81 : decode cX12_shown 81 = .ok (.iinc 4 1, 3) := by decide +kernel
theorem d_X12_shown_84 : decode cX12_shown 84 = .ok (.goto (-67), 3) := by decide +kernel
theorem d_X12_shown_87 : decode cX12_shown 87 = .ok (.aload_n 0, 1) := by decide +kernel
theorem d_X12_shown_88 : decode cX12_shown 88 = .ok (.getfield 90, 3) := by decide +kernel
theorem d_X12_shown_91 : decode cX12_shown 91 = .ok (.iconst 1, 1) := by decide +kernel
theorem d_X12_shown_92 : decode cX12_shown 92 = .ok (.if_icmp .ne 12, 3) := by decide +kernel
theorem d_X12_shown_95 : decode cX12_shown 95 = .ok (.bipush 8, 2) := by decide +kernel
theorem d_X12_shown_97 : decode cX12_shown 97 = .ok (.iload_n 1, 1) := by decide +kernel
theorem d_X12_shown_98 : decode cX12_shown 98 = .ok (.imul, 1) := by decide +kernel
theorem d_X12_shown_99 : decode cX12_shown 99 = .ok (.iload_n 3, 1) := by decide +kernel
theorem d_X12_shown_100 : decode cX12_shown 100 = .ok (.iadd, 1) := by decide +kernel
theorem d_X12_shown_101 : decode cX12_shown 101 = .ok (.goto 26, 3) := by decide +kernel
theorem d_X12_shown_104 : decode cX12_shown 104 = .ok (.aload_n 0, 1) := by decide +kernel
theorem d_X12_shown_105 : decode cX12_shown 105 = .ok (.getfield 90, 3) := by decide +kernel
theorem d_X12_shown_108 : decode cX12_shown 108 = .ok (.iconst 3, 1) := by decide +kernel
theorem d_X12_shown_109 : decode cX12_shown 109 = .ok (.if_icmp .ne 7, 3) := by decide +kernel
theorem d_X12_shown_112 : decode cX12_shown 112 = .ok (.iload_n 1, 1) := by decide +kernel
theorem d_X12_shown_113 : decode cX12_shown 113 = .ok (.goto 14, 3) := by decide +kernel
theorem d_X12_shown_116 : decode cX12_shown 116 = .ok (.bipush 8, 2) := by decide +kernel
theorem d_X12_shown_118 : decode cX12_shown 118 = .ok (.iload_n 1, 1) := by decide +kernel
theorem d_X12_shown_119 : decode cX12_shown 119 = .ok (.imul, 1) := by decide +kernel
theorem d_X12_shown_120 : decode cX12_shown 120 = .ok (.aload_n 0, 1) := by decide +kernel
theorem d_X12_shown_121 : decode cX12_shown 121 = .ok (.getfield 55, 3) := by decide +kernel
theorem d_X12_shown_124 : decode cX12_shown 124 = .ok (.iload_n 2, 1) := by decide +kernel
theorem d_X12_shown_125 : decode cX12_shown 125 = .ok (.iaload, 1) := by decide +kernel
theorem d_X12_shown_126 : decode cX12_shown 126 = .ok (.iadd, 1) := by decide +kernel
theorem d_X12_shown_127 : decode cX12_shown 127 = .ok (.istore_n 1, 1) := by decide +kernel
theorem d_X12_shown_128 : decode cX12_shown 128 = .ok (.iinc 2 1, 3) := by decide +kernel
theorem d_X12_shown_131 : decode cX12_shown 131 = .ok (.goto (-127), 3) := by decide +kernel
theorem d_X12_shown_134 : decode cX12_shown 134 = .ok (.aload_n 0, 1) := by decide +kernel
theorem d_X12_shown_135 : decode cX12_shown 135 = .ok (.getfield 24, 3) := by decide +kernel
theorem d_X12_shown_138 : decode cX12_shown 138 = .ok (.aload_n 0, 1) := by decide +kernel
theorem d_X12_shown_139 : decode cX12_shown 139 = .ok (.getfield 90, 3) := by decide +kernel
theorem d_X12_shown_142 : decode cX12_shown 142 = .ok (.iconst 3, 1) := by decide +kernel
theorem d_X12_shown_143 : decode cX12_shown 143 = .ok (.if_icmp .ne 10, 3) := by decide +kernel
theorem d_X12_shown_146 : decode cX12_shown 146 = .ok (.aload_n 0, 1) := by decide +kernel
theorem d_X12_shown_147 : decode cX12_shown 147 = .ok (.invokevirtual 154, 3) := by decide +kernel
theorem d_X12_shown_150 : decode cX12_shown 150 = .ok (.goto 4, 3) := by decide +kernel
theorem d_X12_shown_153 : decode cX12_shown 153 = .ok (.iload_n 1, 1) := by decide +kernel
theorem d_X12_shown_154 : decode cX12_shown 154 = .ok (.iaload, 1) := by decide +kernel
theorem d_X12_shown_155 : decode cX12_shown 155 = .ok (.ireturn, 1) := by decide +kernel
def f_X12_shown_79 (F : Nat) (kb4 : Int32 → Int32 → sm_M → Option (Int32)) (kb17 : Int32 → Int32 → Int32 → Int32 → sm_M → Option (Int32)) (x1 : Int32) (x2 : Int32) (x4 : Int32) (y0 : Int32) (y1 : Int32) (M : sm_M) : Option (Int32) := kb17 x1 x2 (y0 + y1) (x4 + 1) M
set_option maxRecDepth 100000 in
set_option maxHeartbeats 4000000 in
theorem j_X12_shown_79 {sk : List sm_Sh} (hx : sm_ext skM sk) (F : Nat) (kb4 : Int32 → Int32 → sm_M → Option (Int32)) (kb17 : Int32 → Int32 → Int32 → Int32 → sm_M → Option (Int32)) (hkb4 : ∀ (x1 : Int32) (x2 : Int32) (M : sm_M) (r : Int32), kb4 x1 x2 M = some r → sm_J (md_X12_shown, 1, sk, .inl (some (.int r)), M) 4 [some (.ref 80), some (.int x1), some (.int x2), none, none] [] M) (hkb17 : ∀ (x1 : Int32) (x2 : Int32) (x3 : Int32) (x4 : Int32) (M : sm_M) (r : Int32), kb17 x1 x2 x3 x4 M = some r → sm_J (md_X12_shown, 1, sk, .inl (some (.int r)), M) 17 [some (.ref 80), some (.int x1), some (.int x2), some (.int x3), some (.int x4)] [] M) : ∀ (x1 : Int32) (x2 : Int32) (x4 : Int32) (y0 : Int32) (y1 : Int32) (M : sm_M) (r : Int32), f_X12_shown_79 F kb4 kb17 x1 x2 x4 y0 y1 M = some r → sm_J (md_X12_shown, 1, sk, .inl (some (.int r)), M) 79 [some (.ref 80), some (.int x1), some (.int x2), none, some (.int x4)] [.int y1, .int y0] M := by
  intro x1 x2 x4 y0 y1  M r h
  unfold f_X12_shown_79 at h
  refine sm_iadd (q := 80) d_X12_shown_79 rfl ?_
  refine sm_istore_n (q := 81) (lt := [some (.ref 80), some (.int x1), some (.int x2), some (.int (y0 + y1)), some (.int x4)]) d_X12_shown_80 rfl (Nat.le_of_ble_eq_true rfl) rfl rfl ?_
  refine sm_iinc (q := 84) (v := (x4 + 1)) (lt := [some (.ref 80), some (.int x1), some (.int x2), some (.int (y0 + y1)), some (.int (x4 + 1))]) d_X12_shown_81 rfl rfl (ii_1 _) (Nat.le_of_ble_eq_true rfl) rfl rfl ?_
  refine sm_goto (t := 17) d_X12_shown_84 rfl ?_
  exact hkb17 x1 x2 (y0 + y1) (x4 + 1) M _ h
def f_X12_shown_57 (F : Nat) (kb4 : Int32 → Int32 → sm_M → Option (Int32)) (kb17 : Int32 → Int32 → Int32 → Int32 → sm_M → Option (Int32)) (x1 : Int32) (x2 : Int32) (x3 : Int32) (x4 : Int32) (M : sm_M) : Option (Int32) := sm_g (sm_ib x4 5) (sm_g (sm_ib x2 5) (if (M.1 92 x2.toNatClampNeg) ≤ (M.1 92 x4.toNatClampNeg) then (f_X12_shown_79 F kb4 kb17 x1 x2 x4 x3 (0 : Int32) M) else (f_X12_shown_79 F kb4 kb17 x1 x2 x4 x3 (1 : Int32) M)))
set_option maxRecDepth 100000 in
set_option maxHeartbeats 4000000 in
theorem j_X12_shown_57 {sk : List sm_Sh} (hx : sm_ext skM sk) (F : Nat) (kb4 : Int32 → Int32 → sm_M → Option (Int32)) (kb17 : Int32 → Int32 → Int32 → Int32 → sm_M → Option (Int32)) (hkb4 : ∀ (x1 : Int32) (x2 : Int32) (M : sm_M) (r : Int32), kb4 x1 x2 M = some r → sm_J (md_X12_shown, 1, sk, .inl (some (.int r)), M) 4 [some (.ref 80), some (.int x1), some (.int x2), none, none] [] M) (hkb17 : ∀ (x1 : Int32) (x2 : Int32) (x3 : Int32) (x4 : Int32) (M : sm_M) (r : Int32), kb17 x1 x2 x3 x4 M = some r → sm_J (md_X12_shown, 1, sk, .inl (some (.int r)), M) 17 [some (.ref 80), some (.int x1), some (.int x2), some (.int x3), some (.int x4)] [] M) : ∀ (x1 : Int32) (x2 : Int32) (x3 : Int32) (x4 : Int32) (M : sm_M) (r : Int32), f_X12_shown_57 F kb4 kb17 x1 x2 x3 x4 M = some r → sm_J (md_X12_shown, 1, sk, .inl (some (.int r)), M) 57 [some (.ref 80), some (.int x1), some (.int x2), some (.int x3), some (.int x4)] [] M := by
  intro x1 x2 x3 x4  M r h
  unfold f_X12_shown_57 at h
  refine sm_iload_n (q := 58) d_X12_shown_57 rfl rfl ?_
  refine sm_aload_n (q := 59) d_X12_shown_58 rfl rfl ?_
  refine sm_getr (q := 62) d_X12_shown_59 rfl fl_X12_55 (hx sx_80) rfl ?_
  refine sm_iload (q := 64) d_X12_shown_62 rfl rfl ?_
  obtain ⟨g1, h⟩ := sm_gt h
  refine sm_iaload (q := 65) d_X12_shown_64 rfl (hx sx_92) (sm_ib_of g1) ?_
  refine sm_aload_n (q := 66) d_X12_shown_65 rfl rfl ?_
  refine sm_getr (q := 69) d_X12_shown_66 rfl fl_X12_55 (hx sx_80) rfl ?_
  refine sm_iload_n (q := 70) d_X12_shown_69 rfl rfl ?_
  obtain ⟨g2, h⟩ := sm_gt h
  refine sm_iaload (q := 71) d_X12_shown_70 rfl (hx sx_92) (sm_ib_of g2) ?_
  refine sm_icmp_ge (q := 74) (t := 78) d_X12_shown_71 rfl rfl (fun c3 => ?_) (fun c3 => ?_)
  · replace h := sm_it c3 h
    refine sm_iconst (q := 79) d_X12_shown_78 rfl ci_0 ?_
    refine sm_fg [3] ?_
    exact j_X12_shown_79 hx F kb4 kb17 hkb4 hkb17 x1 x2 x4 x3 (0 : Int32) M _ h
  · replace h := sm_if c3 h
    refine sm_iconst (q := 75) d_X12_shown_74 rfl ci_1 ?_
    refine sm_goto (t := 79) d_X12_shown_75 rfl ?_
    refine sm_fg [3] ?_
    exact j_X12_shown_79 hx F kb4 kb17 hkb4 hkb17 x1 x2 x4 x3 (1 : Int32) M _ h
def f_X12_shown_127 (F : Nat) (kb4 : Int32 → Int32 → sm_M → Option (Int32)) (x2 : Int32) (y0 : Int32) (M : sm_M) : Option (Int32) := kb4 y0 (x2 + 1) M
set_option maxRecDepth 100000 in
set_option maxHeartbeats 4000000 in
theorem j_X12_shown_127 {sk : List sm_Sh} (hx : sm_ext skM sk) (F : Nat) (kb4 : Int32 → Int32 → sm_M → Option (Int32)) (hkb4 : ∀ (x1 : Int32) (x2 : Int32) (M : sm_M) (r : Int32), kb4 x1 x2 M = some r → sm_J (md_X12_shown, 1, sk, .inl (some (.int r)), M) 4 [some (.ref 80), some (.int x1), some (.int x2), none, none] [] M) : ∀ (x2 : Int32) (y0 : Int32) (M : sm_M) (r : Int32), f_X12_shown_127 F kb4 x2 y0 M = some r → sm_J (md_X12_shown, 1, sk, .inl (some (.int r)), M) 127 [some (.ref 80), none, some (.int x2), none, none] [.int y0] M := by
  intro x2 y0  M r h
  unfold f_X12_shown_127 at h
  refine sm_istore_n (q := 128) (lt := [some (.ref 80), some (.int y0), some (.int x2), none, none]) d_X12_shown_127 rfl (Nat.le_of_ble_eq_true rfl) rfl rfl ?_
  refine sm_iinc (q := 131) (v := (x2 + 1)) (lt := [some (.ref 80), some (.int y0), some (.int (x2 + 1)), none, none]) d_X12_shown_128 rfl rfl (ii_1 _) (Nat.le_of_ble_eq_true rfl) rfl rfl ?_
  refine sm_goto (t := 4) d_X12_shown_131 rfl ?_
  exact hkb4 y0 (x2 + 1) M _ h
def f_X12_shown_17b (F : Nat) (kb4 : Int32 → Int32 → sm_M → Option (Int32)) (kb17 : Int32 → Int32 → Int32 → Int32 → sm_M → Option (Int32)) (x1 : Int32) (x2 : Int32) (x3 : Int32) (x4 : Int32) (M : sm_M) : Option (Int32) := if (M.1 80 2) ≤ x4 then (if (M.1 80 1) = (1 : Int32) then (f_X12_shown_127 F kb4 x2 (((8 : Int32) * x1) + x3) M) else (if (M.1 80 1) = (3 : Int32) then (f_X12_shown_127 F kb4 x2 x1 M) else (sm_g (sm_ib x2 5) (f_X12_shown_127 F kb4 x2 (((8 : Int32) * x1) + (M.1 92 x2.toNatClampNeg)) M)))) else (if x4 = x2 then (f_X12_shown_57 F kb4 kb17 x1 x2 x3 x4 M) else (if (M.1 80 1) = 0 then (f_X12_shown_57 F kb4 kb17 x1 x2 x3 x4 M) else (sm_g (sm_ib x4 5) (sm_g (sm_ib x2 5) (if (M.1 92 x4.toNatClampNeg) = (M.1 92 x2.toNatClampNeg) then (some (-1 : Int32)) else (f_X12_shown_57 F kb4 kb17 x1 x2 x3 x4 M))))))
set_option maxRecDepth 100000 in
set_option maxHeartbeats 4000000 in
theorem j_X12_shown_17b {sk : List sm_Sh} (hx : sm_ext skM sk) (F : Nat) (kb4 : Int32 → Int32 → sm_M → Option (Int32)) (kb17 : Int32 → Int32 → Int32 → Int32 → sm_M → Option (Int32)) (hkb4 : ∀ (x1 : Int32) (x2 : Int32) (M : sm_M) (r : Int32), kb4 x1 x2 M = some r → sm_J (md_X12_shown, 1, sk, .inl (some (.int r)), M) 4 [some (.ref 80), some (.int x1), some (.int x2), none, none] [] M) (hkb17 : ∀ (x1 : Int32) (x2 : Int32) (x3 : Int32) (x4 : Int32) (M : sm_M) (r : Int32), kb17 x1 x2 x3 x4 M = some r → sm_J (md_X12_shown, 1, sk, .inl (some (.int r)), M) 17 [some (.ref 80), some (.int x1), some (.int x2), some (.int x3), some (.int x4)] [] M) : ∀ (x1 : Int32) (x2 : Int32) (x3 : Int32) (x4 : Int32) (M : sm_M) (r : Int32), f_X12_shown_17b F kb4 kb17 x1 x2 x3 x4 M = some r → sm_J (md_X12_shown, 1, sk, .inl (some (.int r)), M) 17 [some (.ref 80), some (.int x1), some (.int x2), some (.int x3), some (.int x4)] [] M := by
  intro x1 x2 x3 x4  M r h
  unfold f_X12_shown_17b at h
  refine sm_iload (q := 19) d_X12_shown_17 rfl rfl ?_
  refine sm_aload_n (q := 20) d_X12_shown_19 rfl rfl ?_
  refine sm_geti (q := 23) d_X12_shown_20 rfl fl_X12_13 (hx sx_80) rfl ?_
  refine sm_icmp_ge (q := 26) (t := 87) d_X12_shown_23 rfl rfl (fun c1 => ?_) (fun c1 => ?_)
  · replace h := sm_it c1 h
    refine sm_aload_n (q := 88) d_X12_shown_87 rfl rfl ?_
    refine sm_geti (q := 91) d_X12_shown_88 rfl fl_X12_90 (hx sx_80) rfl ?_
    refine sm_iconst (q := 92) d_X12_shown_91 rfl ci_1 ?_
    refine sm_icmp_ne (q := 95) (t := 104) d_X12_shown_92 rfl rfl (fun c2 => ?_) (fun c2 => ?_)
    · replace h := sm_if c2 h
      refine sm_aload_n (q := 105) d_X12_shown_104 rfl rfl ?_
      refine sm_geti (q := 108) d_X12_shown_105 rfl fl_X12_90 (hx sx_80) rfl ?_
      refine sm_iconst (q := 109) d_X12_shown_108 rfl ci_3 ?_
      refine sm_icmp_ne (q := 112) (t := 116) d_X12_shown_109 rfl rfl (fun c3 => ?_) (fun c3 => ?_)
      · replace h := sm_if c3 h
        refine sm_bipush (q := 118) d_X12_shown_116 rfl cb_8 ?_
        refine sm_iload_n (q := 119) d_X12_shown_118 rfl rfl ?_
        refine sm_imul (q := 120) d_X12_shown_119 rfl ?_
        refine sm_aload_n (q := 121) d_X12_shown_120 rfl rfl ?_
        refine sm_getr (q := 124) d_X12_shown_121 rfl fl_X12_55 (hx sx_80) rfl ?_
        refine sm_iload_n (q := 125) d_X12_shown_124 rfl rfl ?_
        obtain ⟨g4, h⟩ := sm_gt h
        refine sm_iaload (q := 126) d_X12_shown_125 rfl (hx sx_92) (sm_ib_of g4) ?_
        refine sm_iadd (q := 127) d_X12_shown_126 rfl ?_
        refine sm_fg [1, 3, 4] ?_
        exact j_X12_shown_127 hx F kb4 hkb4 x2 (((8 : Int32) * x1) + (M.1 92 x2.toNatClampNeg)) M _ h
      · replace h := sm_it c3 h
        refine sm_iload_n (q := 113) d_X12_shown_112 rfl rfl ?_
        refine sm_goto (t := 127) d_X12_shown_113 rfl ?_
        refine sm_fg [1, 3, 4] ?_
        exact j_X12_shown_127 hx F kb4 hkb4 x2 x1 M _ h
    · replace h := sm_it c2 h
      refine sm_bipush (q := 97) d_X12_shown_95 rfl cb_8 ?_
      refine sm_iload_n (q := 98) d_X12_shown_97 rfl rfl ?_
      refine sm_imul (q := 99) d_X12_shown_98 rfl ?_
      refine sm_iload_n (q := 100) d_X12_shown_99 rfl rfl ?_
      refine sm_iadd (q := 101) d_X12_shown_100 rfl ?_
      refine sm_goto (t := 127) d_X12_shown_101 rfl ?_
      refine sm_fg [1, 3, 4] ?_
      exact j_X12_shown_127 hx F kb4 hkb4 x2 (((8 : Int32) * x1) + x3) M _ h
  · replace h := sm_if c1 h
    refine sm_iload (q := 28) d_X12_shown_26 rfl rfl ?_
    refine sm_iload_n (q := 29) d_X12_shown_28 rfl rfl ?_
    refine sm_icmp_eq (q := 32) (t := 57) d_X12_shown_29 rfl rfl (fun c5 => ?_) (fun c5 => ?_)
    · replace h := sm_it c5 h
      exact j_X12_shown_57 hx F kb4 kb17 hkb4 hkb17 x1 x2 x3 x4 M _ h
    · replace h := sm_if c5 h
      refine sm_aload_n (q := 33) d_X12_shown_32 rfl rfl ?_
      refine sm_geti (q := 36) d_X12_shown_33 rfl fl_X12_90 (hx sx_80) rfl ?_
      refine sm_if_eq (q := 39) (t := 57) d_X12_shown_36 rfl rfl (fun c6 => ?_) (fun c6 => ?_)
      · replace h := sm_it c6 h
        exact j_X12_shown_57 hx F kb4 kb17 hkb4 hkb17 x1 x2 x3 x4 M _ h
      · replace h := sm_if c6 h
        refine sm_aload_n (q := 40) d_X12_shown_39 rfl rfl ?_
        refine sm_getr (q := 43) d_X12_shown_40 rfl fl_X12_55 (hx sx_80) rfl ?_
        refine sm_iload (q := 45) d_X12_shown_43 rfl rfl ?_
        obtain ⟨g7, h⟩ := sm_gt h
        refine sm_iaload (q := 46) d_X12_shown_45 rfl (hx sx_92) (sm_ib_of g7) ?_
        refine sm_aload_n (q := 47) d_X12_shown_46 rfl rfl ?_
        refine sm_getr (q := 50) d_X12_shown_47 rfl fl_X12_55 (hx sx_80) rfl ?_
        refine sm_iload_n (q := 51) d_X12_shown_50 rfl rfl ?_
        obtain ⟨g8, h⟩ := sm_gt h
        refine sm_iaload (q := 52) d_X12_shown_51 rfl (hx sx_92) (sm_ib_of g8) ?_
        refine sm_icmp_ne (q := 55) (t := 57) d_X12_shown_52 rfl rfl (fun c9 => ?_) (fun c9 => ?_)
        · replace h := sm_if c9 h
          exact j_X12_shown_57 hx F kb4 kb17 hkb4 hkb17 x1 x2 x3 x4 M _ h
        · replace h := sm_it c9 h
          refine sm_iconst (q := 56) d_X12_shown_55 rfl ci_m1 ?_
          obtain rfl := Option.some.inj h
          exact sm_iret d_X12_shown_56 rfl rfl rfl rfl
def f_X12_shown_17 (F : Nat) (kb4 : Int32 → Int32 → sm_M → Option (Int32)) (n : Nat) : Int32 → Int32 → Int32 → Int32 → sm_M → Option (Int32) := match n with
 | 0 => fun _ _ _ _ _ => none
 | n + 1 => f_X12_shown_17b F kb4 (f_X12_shown_17 F kb4 n)
theorem j_X12_shown_17 {sk : List sm_Sh} (hx : sm_ext skM sk) (F : Nat) (kb4 : Int32 → Int32 → sm_M → Option (Int32)) (hkb4 : ∀ (x1 : Int32) (x2 : Int32) (M : sm_M) (r : Int32), kb4 x1 x2 M = some r → sm_J (md_X12_shown, 1, sk, .inl (some (.int r)), M) 4 [some (.ref 80), some (.int x1), some (.int x2), none, none] [] M) : ∀ (n : Nat) (x1 : Int32) (x2 : Int32) (x3 : Int32) (x4 : Int32) (M : sm_M) (r : Int32), f_X12_shown_17 F kb4 n x1 x2 x3 x4 M = some r → sm_J (md_X12_shown, 1, sk, .inl (some (.int r)), M) 17 [some (.ref 80), some (.int x1), some (.int x2), some (.int x3), some (.int x4)] [] M := by
  intro n
  induction n with
  | zero => intro x1 x2 x3 x4  M r h; exact nomatch (show (none : Option (Int32)) = some r from h)
  | succ n ih => exact j_X12_shown_17b hx F kb4 (f_X12_shown_17 F kb4 n) hkb4 ih
def f_X12_shown_154 (F : Nat) (y1 : Int32) (M : sm_M) : Option (Int32) := sm_g (sm_ib y1 32768) (some (M.1 82 y1.toNatClampNeg))
set_option maxRecDepth 100000 in
set_option maxHeartbeats 4000000 in
theorem j_X12_shown_154 {sk : List sm_Sh} (hx : sm_ext skM sk) (F : Nat) : ∀ (y1 : Int32) (M : sm_M) (r : Int32), f_X12_shown_154 F y1 M = some r → sm_J (md_X12_shown, 1, sk, .inl (some (.int r)), M) 154 [none, none, none, none, none] [.int y1, .ref 82] M := by
  intro y1  M r h
  unfold f_X12_shown_154 at h
  obtain ⟨g1, h⟩ := sm_gt h
  refine sm_iaload (q := 155) d_X12_shown_154 rfl (hx sx_82) (sm_ib_of g1) ?_
  obtain rfl := Option.some.inj h
  exact sm_iret d_X12_shown_155 rfl rfl rfl rfl
def f_X12_shown_4b (F : Nat) (kb4 : Int32 → Int32 → sm_M → Option (Int32)) (x1 : Int32) (x2 : Int32) (M : sm_M) : Option (Int32) := if (M.1 80 2) ≤ x2 then (if (M.1 80 1) = (3 : Int32) then ((f_X12_sortedCode F M).bind fun q3 => f_X12_shown_154 F q3 M) else (f_X12_shown_154 F x1 M)) else (f_X12_shown_17 F kb4 F x1 x2 (0 : Int32) (0 : Int32) M)
set_option maxRecDepth 100000 in
set_option maxHeartbeats 4000000 in
theorem j_X12_shown_4b {sk : List sm_Sh} (hx : sm_ext skM sk) (F : Nat) (kb4 : Int32 → Int32 → sm_M → Option (Int32)) (hkb4 : ∀ (x1 : Int32) (x2 : Int32) (M : sm_M) (r : Int32), kb4 x1 x2 M = some r → sm_J (md_X12_shown, 1, sk, .inl (some (.int r)), M) 4 [some (.ref 80), some (.int x1), some (.int x2), none, none] [] M) : ∀ (x1 : Int32) (x2 : Int32) (M : sm_M) (r : Int32), f_X12_shown_4b F kb4 x1 x2 M = some r → sm_J (md_X12_shown, 1, sk, .inl (some (.int r)), M) 4 [some (.ref 80), some (.int x1), some (.int x2), none, none] [] M := by
  intro x1 x2  M r h
  unfold f_X12_shown_4b at h
  refine sm_iload_n (q := 5) d_X12_shown_4 rfl rfl ?_
  refine sm_aload_n (q := 6) d_X12_shown_5 rfl rfl ?_
  refine sm_geti (q := 9) d_X12_shown_6 rfl fl_X12_13 (hx sx_80) rfl ?_
  refine sm_icmp_ge (q := 12) (t := 134) d_X12_shown_9 rfl rfl (fun c1 => ?_) (fun c1 => ?_)
  · replace h := sm_it c1 h
    refine sm_aload_n (q := 135) d_X12_shown_134 rfl rfl ?_
    refine sm_getr (q := 138) d_X12_shown_135 rfl fl_X12_24 (hx sx_80) rfl ?_
    refine sm_aload_n (q := 139) d_X12_shown_138 rfl rfl ?_
    refine sm_geti (q := 142) d_X12_shown_139 rfl fl_X12_90 (hx sx_80) rfl ?_
    refine sm_iconst (q := 143) d_X12_shown_142 rfl ci_3 ?_
    refine sm_icmp_ne (q := 146) (t := 153) d_X12_shown_143 rfl rfl (fun c2 => ?_) (fun c2 => ?_)
    · replace h := sm_if c2 h
      refine sm_iload_n (q := 154) d_X12_shown_153 rfl rfl ?_
      refine sm_fg [0, 1, 2] ?_
      exact j_X12_shown_154 hx F x1 M _ h
    · replace h := sm_it c2 h
      refine sm_aload_n (q := 147) d_X12_shown_146 rfl rfl ?_
      obtain ⟨q3, e3, h⟩ := sm_bd h
      refine sm_callV (q := 150) (d' := 0) [.ref 82] [] d_X12_shown_147 rfl lk_X12_154 (hx sx_80) rfl rfl rfl (Nat.le_of_ble_eq_true rfl) (Nat.le_of_ble_eq_true rfl) (c_X12_sortedCode hx F M _ e3) (st9 := [.int q3, .ref 82]) rfl ?_
      refine sm_goto (t := 154) d_X12_shown_150 rfl ?_
      refine sm_fg [0, 1, 2] ?_
      exact j_X12_shown_154 hx F q3 M _ h
  · replace h := sm_if c1 h
    refine sm_iconst (q := 13) d_X12_shown_12 rfl ci_0 ?_
    refine sm_istore_n (q := 14) (lt := [some (.ref 80), some (.int x1), some (.int x2), some (.int (0 : Int32)), none]) d_X12_shown_13 rfl (Nat.le_of_ble_eq_true rfl) rfl rfl ?_
    refine sm_iconst (q := 15) d_X12_shown_14 rfl ci_0 ?_
    refine sm_istore (q := 17) (lt := [some (.ref 80), some (.int x1), some (.int x2), some (.int (0 : Int32)), some (.int (0 : Int32))]) d_X12_shown_15 rfl (Nat.le_of_ble_eq_true rfl) rfl rfl ?_
    exact j_X12_shown_17 hx F kb4 hkb4 F x1 x2 (0 : Int32) (0 : Int32) M _ h
def f_X12_shown_4 (F : Nat) (n : Nat) : Int32 → Int32 → sm_M → Option (Int32) := match n with
 | 0 => fun _ _ _ => none
 | n + 1 => f_X12_shown_4b F (f_X12_shown_4 F n)
theorem j_X12_shown_4 {sk : List sm_Sh} (hx : sm_ext skM sk) (F : Nat) : ∀ (n : Nat) (x1 : Int32) (x2 : Int32) (M : sm_M) (r : Int32), f_X12_shown_4 F n x1 x2 M = some r → sm_J (md_X12_shown, 1, sk, .inl (some (.int r)), M) 4 [some (.ref 80), some (.int x1), some (.int x2), none, none] [] M := by
  intro n
  induction n with
  | zero => intro x1 x2  M r h; exact nomatch (show (none : Option (Int32)) = some r from h)
  | succ n ih => exact j_X12_shown_4b hx F (f_X12_shown_4 F n) ih
def f_X12_shown (F : Nat) (M : sm_M) : Option (Int32) := f_X12_shown_4 F F (0 : Int32) (0 : Int32) M
set_option maxRecDepth 100000 in
set_option maxHeartbeats 4000000 in
theorem j_X12_shown {sk : List sm_Sh} (hx : sm_ext skM sk) (F : Nat) : ∀ (M : sm_M) (r : Int32), f_X12_shown F M = some r → sm_J (md_X12_shown, 1, sk, .inl (some (.int r)), M) 0 [some (.ref 80), none, none, none, none] [] M := by
  intro   M r h
  unfold f_X12_shown at h
  refine sm_iconst (q := 1) d_X12_shown_0 rfl ci_0 ?_
  refine sm_istore_n (q := 2) (lt := [some (.ref 80), some (.int (0 : Int32)), none, none, none]) d_X12_shown_1 rfl (Nat.le_of_ble_eq_true rfl) rfl rfl ?_
  refine sm_iconst (q := 3) d_X12_shown_2 rfl ci_0 ?_
  refine sm_istore_n (q := 4) (lt := [some (.ref 80), some (.int (0 : Int32)), some (.int (0 : Int32)), none, none]) d_X12_shown_3 rfl (Nat.le_of_ble_eq_true rfl) rfl rfl ?_
  exact j_X12_shown_4 hx F F (0 : Int32) (0 : Int32) M _ h
theorem c_X12_shown {sk : List sm_Sh} (hx : sm_ext skM sk) (F : Nat) (M : sm_M) (r : Int32) (h : f_X12_shown F M = some r) : sm_Ct yX12_shown md_X12_shown 1 sk [.ref 80] M (.inl (some (.int r))) M := sm_enter 4 pn_X12 rfl (Nat.le_of_ble_eq_true rfl) rfl (j_X12_shown hx F M r h)
/-! UniversalCyclesModel.shows(I)I -/
theorem d_X12_shows_0 : decode cX12_shows 0 = .ok (.iconst 0, 1) := by decide +kernel
theorem d_X12_shows_1 : decode cX12_shows 1 = .ok (.istore_n 2, 1) := by decide +kernel
theorem d_X12_shows_2 : decode cX12_shows 2 = .ok (.iload_n 2, 1) := by decide +kernel
theorem d_X12_shows_3 : decode cX12_shows 3 = .ok (.aload_n 0, 1) := by decide +kernel
theorem d_X12_shows_4 : decode cX12_shows 4 = .ok (.getfield 13, 3) := by decide +kernel
theorem d_X12_shows_7 : decode cX12_shows 7 = .ok (.if_icmp .ge 28, 3) := by decide +kernel
theorem d_X12_shows_10 : decode cX12_shows 10 = .ok (.aload_n 0, 1) := by decide +kernel
theorem d_X12_shows_11 : decode cX12_shows 11 = .ok (.getfield 55, 3) := by decide +kernel
theorem d_X12_shows_14 : decode cX12_shows 14 = .ok (.iload_n 2, 1) := by decide +kernel
theorem d_X12_shows_15 : decode cX12_shows 15 = .ok (.aload_n 0, 1) := by decide +kernel
theorem d_X12_shows_16 : decode cX12_shows 16 = .ok (.getfield 36, 3) := by decide +kernel
theorem d_X12_shows_19 : decode cX12_shows 19 = .ok (.iload_n 1, 1) := by decide +kernel
theorem d_X12_shows_20 : decode cX12_shows 20 = .ok (.iload_n 2, 1) := by decide +kernel
theorem d_X12_shows_21 : decode cX12_shows 21 = .ok (.iadd, 1) := by decide +kernel
theorem d_X12_shows_22 : decode cX12_shows 22 = .ok (.aload_n 0, 1) := by decide +kernel
theorem d_X12_shows_23 : decode cX12_shows 23 = .ok (.getfield 125, 3) := by decide +kernel
theorem d_X12_shows_26 : decode cX12_shows 26 = .ok (.irem, 1) := by decide +kernel
theorem d_X12_shows_27 : decode cX12_shows 27 = .ok (.iaload, 1) := by decide +kernel
theorem d_X12_shows_28 : decode cX12_shows 28 = .ok (.iastore, 1) := by decide +kernel
theorem d_X12_shows_29 : decode cX12_shows 29 = .ok (.iinc 2 1, 3) := by decide +kernel
theorem d_X12_shows_32 : decode cX12_shows 32 = .ok (.goto (-30), 3) := by decide +kernel
theorem d_X12_shows_35 : decode cX12_shows 35 = .ok (.aload_n 0, 1) := by decide +kernel
theorem d_X12_shows_36 : decode cX12_shows 36 = .ok (.invokevirtual 158, 3) := by decide +kernel
theorem d_X12_shows_39 : decode cX12_shows 39 = .ok (.ireturn, 1) := by decide +kernel
def f_X12_shows_2b (F : Nat) (kb2 : Int32 → Int32 → sm_M → Option (Int32 × sm_M)) (x1 : Int32) (x2 : Int32) (M : sm_M) : Option (Int32 × sm_M) := if (M.1 80 2) ≤ x2 then ((f_X12_shown F M).bind fun q2 => some (q2, M)) else (sm_g (sm_nz (M.1 80 12)) (sm_g (sm_ib ((x1 + x2) - (x1 + x2) / (M.1 80 12) * (M.1 80 12)) 240) (sm_g (sm_ib x2 5) (kb2 x1 (x2 + 1) ((sm_mi M 92 x2.toNatClampNeg (M.1 86 ((x1 + x2) - (x1 + x2) / (M.1 80 12) * (M.1 80 12)).toNatClampNeg)))))))
set_option maxRecDepth 100000 in
set_option maxHeartbeats 4000000 in
theorem j_X12_shows_2b {sk : List sm_Sh} (hx : sm_ext skM sk) (F : Nat) (kb2 : Int32 → Int32 → sm_M → Option (Int32 × sm_M)) (hkb2 : ∀ (x1 : Int32) (x2 : Int32) (M : sm_M) (r : Int32 × sm_M), kb2 x1 x2 M = some r → sm_J (md_X12_shows, 2, sk, .inl (some (.int r.1)), r.2) 2 [some (.ref 80), some (.int x1), some (.int x2)] [] M) : ∀ (x1 : Int32) (x2 : Int32) (M : sm_M) (r : Int32 × sm_M), f_X12_shows_2b F kb2 x1 x2 M = some r → sm_J (md_X12_shows, 2, sk, .inl (some (.int r.1)), r.2) 2 [some (.ref 80), some (.int x1), some (.int x2)] [] M := by
  intro x1 x2  M r h
  unfold f_X12_shows_2b at h
  refine sm_iload_n (q := 3) d_X12_shows_2 rfl rfl ?_
  refine sm_aload_n (q := 4) d_X12_shows_3 rfl rfl ?_
  refine sm_geti (q := 7) d_X12_shows_4 rfl fl_X12_13 (hx sx_80) rfl ?_
  refine sm_icmp_ge (q := 10) (t := 35) d_X12_shows_7 rfl rfl (fun c1 => ?_) (fun c1 => ?_)
  · replace h := sm_it c1 h
    refine sm_aload_n (q := 36) d_X12_shows_35 rfl rfl ?_
    obtain ⟨q2, e2, h⟩ := sm_bd h
    refine sm_callV (q := 39) (d' := 1) [] [] d_X12_shows_36 rfl lk_X12_158 (hx sx_80) rfl rfl rfl (Nat.le_of_ble_eq_true rfl) (Nat.le_of_ble_eq_true rfl) (c_X12_shown hx F M _ e2) (st9 := [.int q2]) rfl ?_
    obtain rfl := Option.some.inj h
    exact sm_iret d_X12_shows_39 rfl rfl rfl rfl
  · replace h := sm_if c1 h
    refine sm_aload_n (q := 11) d_X12_shows_10 rfl rfl ?_
    refine sm_getr (q := 14) d_X12_shows_11 rfl fl_X12_55 (hx sx_80) rfl ?_
    refine sm_iload_n (q := 15) d_X12_shows_14 rfl rfl ?_
    refine sm_aload_n (q := 16) d_X12_shows_15 rfl rfl ?_
    refine sm_getr (q := 19) d_X12_shows_16 rfl fl_X12_36 (hx sx_80) rfl ?_
    refine sm_iload_n (q := 20) d_X12_shows_19 rfl rfl ?_
    refine sm_iload_n (q := 21) d_X12_shows_20 rfl rfl ?_
    refine sm_iadd (q := 22) d_X12_shows_21 rfl ?_
    refine sm_aload_n (q := 23) d_X12_shows_22 rfl rfl ?_
    refine sm_geti (q := 26) d_X12_shows_23 rfl fl_X12_125 (hx sx_80) rfl ?_
    obtain ⟨g3, h⟩ := sm_gt h
    refine sm_irem (q := 27) d_X12_shows_26 rfl (sm_nz_of g3) ?_
    obtain ⟨g4, h⟩ := sm_gt h
    refine sm_iaload (q := 28) d_X12_shows_27 rfl (hx sx_86) (sm_ib_of g4) ?_
    obtain ⟨g5, h⟩ := sm_gt h
    refine sm_iastore (q := 29) d_X12_shows_28 rfl (hx sx_92) (sm_ib_of g5) ?_
    refine sm_iinc (q := 32) (v := (x2 + 1)) (lt := [some (.ref 80), some (.int x1), some (.int (x2 + 1))]) d_X12_shows_29 rfl rfl (ii_1 _) (Nat.le_of_ble_eq_true rfl) rfl rfl ?_
    refine sm_goto (t := 2) d_X12_shows_32 rfl ?_
    exact hkb2 x1 (x2 + 1) ((sm_mi M 92 x2.toNatClampNeg (M.1 86 ((x1 + x2) - (x1 + x2) / (M.1 80 12) * (M.1 80 12)).toNatClampNeg))) _ h
def f_X12_shows_2 (F : Nat) (n : Nat) : Int32 → Int32 → sm_M → Option (Int32 × sm_M) := match n with
 | 0 => fun _ _ _ => none
 | n + 1 => f_X12_shows_2b F (f_X12_shows_2 F n)
theorem j_X12_shows_2 {sk : List sm_Sh} (hx : sm_ext skM sk) (F : Nat) : ∀ (n : Nat) (x1 : Int32) (x2 : Int32) (M : sm_M) (r : Int32 × sm_M), f_X12_shows_2 F n x1 x2 M = some r → sm_J (md_X12_shows, 2, sk, .inl (some (.int r.1)), r.2) 2 [some (.ref 80), some (.int x1), some (.int x2)] [] M := by
  intro n
  induction n with
  | zero => intro x1 x2  M r h; exact nomatch (show (none : Option (Int32 × sm_M)) = some r from h)
  | succ n ih => exact j_X12_shows_2b hx F (f_X12_shows_2 F n) ih
def f_X12_shows (F : Nat) (x1 : Int32) (M : sm_M) : Option (Int32 × sm_M) := f_X12_shows_2 F F x1 (0 : Int32) M
set_option maxRecDepth 100000 in
set_option maxHeartbeats 4000000 in
theorem j_X12_shows {sk : List sm_Sh} (hx : sm_ext skM sk) (F : Nat) : ∀ (x1 : Int32) (M : sm_M) (r : Int32 × sm_M), f_X12_shows F x1 M = some r → sm_J (md_X12_shows, 2, sk, .inl (some (.int r.1)), r.2) 0 [some (.ref 80), some (.int x1), none] [] M := by
  intro x1  M r h
  unfold f_X12_shows at h
  refine sm_iconst (q := 1) d_X12_shows_0 rfl ci_0 ?_
  refine sm_istore_n (q := 2) (lt := [some (.ref 80), some (.int x1), some (.int (0 : Int32))]) d_X12_shows_1 rfl (Nat.le_of_ble_eq_true rfl) rfl rfl ?_
  exact j_X12_shows_2 hx F F x1 (0 : Int32) M _ h
theorem c_X12_shows {sk : List sm_Sh} (hx : sm_ext skM sk) (F : Nat) (x1 : Int32) (M : sm_M) (r : Int32 × sm_M) (h : f_X12_shows F x1 M = some r) : sm_Ct yX12_shows md_X12_shows 2 sk [.ref 80, .int x1] M (.inl (some (.int r.1))) r.2 := sm_enter 1 pn_X12 rfl (Nat.le_of_ble_eq_true rfl) rfl (j_X12_shows hx F x1 M r h)
