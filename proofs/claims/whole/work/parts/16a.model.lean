/-! ===== methods, decompiled: 16a.model ===== -/
/-! UniversalCyclesModel.isIn(III)Z -/
theorem d_X12_isIn_0 : decode cX12_isIn 0 = .ok (.iload_n 0, 1) := by decide +kernel
theorem d_X12_isIn_1 : decode cX12_isIn 1 = .ok (.iload_n 1, 1) := by decide +kernel
theorem d_X12_isIn_2 : decode cX12_isIn 2 = .ok (.if_icmp .lt 12, 3) := by decide +kernel
theorem d_X12_isIn_5 : decode cX12_isIn 5 = .ok (.iload_n 0, 1) := by decide +kernel
theorem d_X12_isIn_6 : decode cX12_isIn 6 = .ok (.iload_n 2, 1) := by decide +kernel
theorem d_X12_isIn_7 : decode cX12_isIn 7 = .ok (.if_icmp .gt 7, 3) := by decide +kernel
theorem d_X12_isIn_10 : decode cX12_isIn 10 = .ok (.iconst 1, 1) := by decide +kernel
theorem d_X12_isIn_11 : decode cX12_isIn 11 = .ok (.goto 4, 3) := by decide +kernel
theorem d_X12_isIn_14 : decode cX12_isIn 14 = .ok (.iconst 0, 1) := by decide +kernel
theorem d_X12_isIn_15 : decode cX12_isIn 15 = .ok (.ireturn, 1) := by decide +kernel
def f_X12_isIn_15 (F : Nat) (y0 : Int32) (M : sm_M) : Option (Int32) := sm_g (sm_nar .boolean y0) (some y0)
set_option maxRecDepth 100000 in
set_option maxHeartbeats 4000000 in
theorem j_X12_isIn_15 {sk : List sm_Sh} (hx : sm_ext skM sk) (F : Nat) : ∀ (y0 : Int32) (M : sm_M) (r : Int32), f_X12_isIn_15 F y0 M = some r → sm_J (md_X12_isIn, 0, sk, .inl (some (.int r)), M) 15 [none, none, none] [.int y0] M := by
  intro y0  M r h
  unfold f_X12_isIn_15 at h
  obtain ⟨g1, h⟩ := sm_gt h
  obtain rfl := Option.some.inj h
  exact sm_iret d_X12_isIn_15 rfl (sm_nar_of g1).1 rfl rfl
def f_X12_isIn_14 (F : Nat) (M : sm_M) : Option (Int32) := f_X12_isIn_15 F (0 : Int32) M
set_option maxRecDepth 100000 in
set_option maxHeartbeats 4000000 in
theorem j_X12_isIn_14 {sk : List sm_Sh} (hx : sm_ext skM sk) (F : Nat) : ∀ (M : sm_M) (r : Int32), f_X12_isIn_14 F M = some r → sm_J (md_X12_isIn, 0, sk, .inl (some (.int r)), M) 14 [none, none, none] [] M := by
  intro   M r h
  unfold f_X12_isIn_14 at h
  refine sm_iconst (q := 15) d_X12_isIn_14 rfl ci_0 ?_
  exact j_X12_isIn_15 hx F (0 : Int32) M _ h
def f_X12_isIn (F : Nat) (x0 : Int32) (x1 : Int32) (x2 : Int32) (M : sm_M) : Option (Int32) := if x0 < x1 then (f_X12_isIn_14 F M) else (if x2 < x0 then (f_X12_isIn_14 F M) else (f_X12_isIn_15 F (1 : Int32) M))
set_option maxRecDepth 100000 in
set_option maxHeartbeats 4000000 in
theorem j_X12_isIn {sk : List sm_Sh} (hx : sm_ext skM sk) (F : Nat) : ∀ (x0 : Int32) (x1 : Int32) (x2 : Int32) (M : sm_M) (r : Int32), f_X12_isIn F x0 x1 x2 M = some r → sm_J (md_X12_isIn, 0, sk, .inl (some (.int r)), M) 0 [some (.int x0), some (.int x1), some (.int x2)] [] M := by
  intro x0 x1 x2  M r h
  unfold f_X12_isIn at h
  refine sm_iload_n (q := 1) d_X12_isIn_0 rfl rfl ?_
  refine sm_iload_n (q := 2) d_X12_isIn_1 rfl rfl ?_
  refine sm_icmp_lt (q := 5) (t := 14) d_X12_isIn_2 rfl rfl (fun c1 => ?_) (fun c1 => ?_)
  · replace h := sm_it c1 h
    refine sm_fg [0, 1, 2] ?_
    exact j_X12_isIn_14 hx F M _ h
  · replace h := sm_if c1 h
    refine sm_iload_n (q := 6) d_X12_isIn_5 rfl rfl ?_
    refine sm_iload_n (q := 7) d_X12_isIn_6 rfl rfl ?_
    refine sm_icmp_gt (q := 10) (t := 14) d_X12_isIn_7 rfl rfl (fun c2 => ?_) (fun c2 => ?_)
    · replace h := sm_it c2 h
      refine sm_fg [0, 1, 2] ?_
      exact j_X12_isIn_14 hx F M _ h
    · replace h := sm_if c2 h
      refine sm_iconst (q := 11) d_X12_isIn_10 rfl ci_1 ?_
      refine sm_goto (t := 15) d_X12_isIn_11 rfl ?_
      refine sm_fg [0, 1, 2] ?_
      exact j_X12_isIn_15 hx F (1 : Int32) M _ h
theorem c_X12_isIn {sk : List sm_Sh} (hx : sm_ext skM sk) (F : Nat) (x0 : Int32) (x1 : Int32) (x2 : Int32) (M : sm_M) (r : Int32) (h : f_X12_isIn F x0 x1 x2 M = some r) : sm_Ct yX12_isIn md_X12_isIn 0 sk [.int x0, .int x1, .int x2] M (.inl (some (.int r))) M := sm_enter 0 pn_X12 rfl (Nat.le_of_ble_eq_true rfl) rfl (j_X12_isIn hx F x0 x1 x2 M r h)
/-! UniversalCyclesModel.thrown()I -/
theorem d_X12_thrown_0 : decode cX12_thrown 0 = .ok (.aload_n 0, 1) := by decide +kernel
theorem d_X12_thrown_1 : decode cX12_thrown 1 = .ok (.getfield 1, 3) := by decide +kernel
theorem d_X12_thrown_4 : decode cX12_thrown 4 = .ok (.ireturn, 1) := by decide +kernel
def f_X12_thrown (F : Nat) (M : sm_M) : Option (Int32) := some (M.1 80 0)
set_option maxRecDepth 100000 in
set_option maxHeartbeats 4000000 in
theorem j_X12_thrown {sk : List sm_Sh} (hx : sm_ext skM sk) (F : Nat) : ∀ (M : sm_M) (r : Int32), f_X12_thrown F M = some r → sm_J (md_X12_thrown, 0, sk, .inl (some (.int r)), M) 0 [some (.ref 80)] [] M := by
  intro   M r h
  unfold f_X12_thrown at h
  refine sm_aload_n (q := 1) d_X12_thrown_0 rfl rfl ?_
  refine sm_geti (q := 4) d_X12_thrown_1 rfl fl_X12_1 (hx sx_80) rfl ?_
  obtain rfl := Option.some.inj h
  exact sm_iret d_X12_thrown_4 rfl rfl rfl rfl
theorem c_X12_thrown {sk : List sm_Sh} (hx : sm_ext skM sk) (F : Nat) (M : sm_M) (r : Int32) (h : f_X12_thrown F M = some r) : sm_Ct yX12_thrown md_X12_thrown 0 sk [.ref 80] M (.inl (some (.int r))) M := sm_enter 0 pn_X12 rfl (Nat.le_of_ble_eq_true rfl) rfl (j_X12_thrown hx F M r h)
/-! UniversalCyclesModel.fail(I)I -/
theorem d_X12_fail_0 : decode cX12_fail 0 = .ok (.aload_n 0, 1) := by decide +kernel
theorem d_X12_fail_1 : decode cX12_fail 1 = .ok (.iload_n 1, 1) := by decide +kernel
theorem d_X12_fail_2 : decode cX12_fail 2 = .ok (.putfield 1, 3) := by decide +kernel
theorem d_X12_fail_5 : decode cX12_fail 5 = .ok (.iconst 0, 1) := by decide +kernel
theorem d_X12_fail_6 : decode cX12_fail 6 = .ok (.ireturn, 1) := by decide +kernel
def f_X12_fail (F : Nat) (x1 : Int32) (M : sm_M) : Option (Int32 × sm_M) := some ((0 : Int32), (sm_mi M 80 0 x1))
set_option maxRecDepth 100000 in
set_option maxHeartbeats 4000000 in
theorem j_X12_fail {sk : List sm_Sh} (hx : sm_ext skM sk) (F : Nat) : ∀ (x1 : Int32) (M : sm_M) (r : Int32 × sm_M), f_X12_fail F x1 M = some r → sm_J (md_X12_fail, 0, sk, .inl (some (.int r.1)), r.2) 0 [some (.ref 80), some (.int x1)] [] M := by
  intro x1  M r h
  unfold f_X12_fail at h
  refine sm_aload_n (q := 1) d_X12_fail_0 rfl rfl ?_
  refine sm_iload_n (q := 2) d_X12_fail_1 rfl rfl ?_
  refine sm_puti (q := 5) d_X12_fail_2 rfl fw_X12_1 (hx sx_80) rfl rfl rfl ?_
  refine sm_iconst (q := 6) d_X12_fail_5 rfl ci_0 ?_
  obtain rfl := Option.some.inj h
  exact sm_iret d_X12_fail_6 rfl rfl rfl rfl
theorem c_X12_fail {sk : List sm_Sh} (hx : sm_ext skM sk) (F : Nat) (x1 : Int32) (M : sm_M) (r : Int32 × sm_M) (h : f_X12_fail F x1 M = some r) : sm_Ct yX12_fail md_X12_fail 0 sk [.ref 80, .int x1] M (.inl (some (.int r.1))) r.2 := sm_enter 0 pn_X12 rfl (Nat.le_of_ble_eq_true rfl) rfl (j_X12_fail hx F x1 M r h)
/-! UniversalCyclesModel.countOf(III)I -/
theorem d_X12_countOf_0 : decode cX12_countOf 0 = .ok (.iconst 1, 1) := by decide +kernel
theorem d_X12_countOf_1 : decode cX12_countOf 1 = .ok (.istore_n 3, 1) := by decide +kernel
theorem d_X12_countOf_2 : decode cX12_countOf 2 = .ok (.iconst 0, 1) := by decide +kernel
theorem d_X12_countOf_3 : decode cX12_countOf 3 = .ok (.istore 4, 2) := by decide +kernel
theorem d_X12_countOf_5 : decode cX12_countOf 5 = .ok (.iload 4, 2) := by decide +kernel
theorem d_X12_countOf_7 : decode cX12_countOf 7 = .ok (.iload_n 1, 1) := by decide +kernel
theorem d_X12_countOf_8 : decode cX12_countOf 8 = .ok (.if_icmp .ge 68, 3) := by decide +kernel
theorem d_X12_countOf_11 : decode cX12_countOf 11 = .ok (.iload_n 3, 1) := by decide +kernel
theorem d_X12_countOf_12 : decode cX12_countOf 12 = .ok (.iload_n 0, 1) := by decide +kernel
theorem d_X12_countOf_13 : decode cX12_countOf 13 = .ok (.ifCond .ne 7, 3) := by decide +kernel
theorem d_X12_countOf_16 : decode cX12_countOf 16 = .ok (.iload_n 2, 1) := by decide +kernel
theorem d_X12_countOf_17 : decode cX12_countOf 17 = .ok (.goto 19, 3) := by decide +kernel
theorem d_X12_countOf_20 : decode cX12_countOf 20 = .ok (.iload_n 0, 1) := by decide +kernel
theorem d_X12_countOf_21 : decode cX12_countOf 21 = .ok (.iconst 1, 1) := by decide +kernel
theorem d_X12_countOf_22 : decode cX12_countOf 22 = .ok (.if_icmp .ne 10, 3) := by decide +kernel
theorem d_X12_countOf_25 : decode cX12_countOf 25 = .ok (.iload_n 1, 1) := by decide +kernel
theorem d_X12_countOf_26 : decode cX12_countOf 26 = .ok (.iload 4, 2) := by decide +kernel
theorem d_X12_countOf_28 : decode cX12_countOf 28 = .ok (.isub, 1) := by decide +kernel
theorem d_X12_countOf_29 : decode cX12_countOf 29 = .ok (.goto 7, 3) := by decide +kernel
theorem d_X12_countOf_32 : decode cX12_countOf 32 = .ok (.iload_n 2, 1) := by decide +kernel
theorem d_X12_countOf_33 : decode cX12_countOf 33 = .ok (.iload 4, 2) := by decide +kernel
theorem d_X12_countOf_35 : decode cX12_countOf 35 = .ok (.isub, 1) := by decide +kernel
theorem d_X12_countOf_36 : decode cX12_countOf 36 = .ok (.imul, 1) := by decide +kernel
theorem d_X12_countOf_37 : decode cX12_countOf 37 = .ok (.istore_n 3, 1) := by decide +kernel
theorem d_X12_countOf_38 : decode cX12_countOf 38 = .ok (.iload_n 0, 1) := by decide +kernel
theorem d_X12_countOf_39 : decode cX12_countOf 39 = .ok (.iconst 3, 1) := by decide +kernel
theorem d_X12_countOf_40 : decode cX12_countOf 40 = .ok (.if_icmp .ne 12, 3) := by decide +kernel
theorem d_X12_countOf_43 : decode cX12_countOf 43 = .ok (.iload_n 3, 1) := by decide +kernel
theorem d_X12_countOf_44 : decode cX12_countOf 44 = .ok (.iload 4, 2) := by decide +kernel
theorem d_X12_countOf_46 : decode cX12_countOf 46 = .ok (.iconst 1, 1) := by decide +kernel
theorem d_X12_countOf_47 : decode cX12_countOf 47 = .ok (.iadd, 1) := by decide +kernel
theorem d_X12_countOf_48 : decode cX12_countOf 48 = .ok (.idiv, 1) := by decide +kernel
theorem d_X12_countOf_49 : decode cX12_countOf 49 = .ok (.goto 4, 3) := by decide +kernel
theorem d_X12_countOf_52 : decode cX12_countOf 52 = .ok (.iload_n 3, 1) := by decide +kernel
theorem d_X12_countOf_53 : decode cX12_countOf 53 = .ok (.istore_n 3, 1) := by decide +kernel
theorem d_X12_countOf_54 : decode cX12_countOf 54 = .ok (.iload_n 0, 1) := by decide +kernel
theorem d_X12_countOf_55 : decode cX12_countOf 55 = .ok (.iconst 3, 1) := by decide +kernel
theorem d_X12_countOf_56 : decode cX12_countOf 56 = .ok (.if_icmp .eq 14, 3) := by decide +kernel
theorem d_X12_countOf_59 : decode cX12_countOf 59 = .ok (.iload_n 3, 1) := by decide +kernel
theorem d_X12_countOf_60 : decode cX12_countOf 60 = .ok (.sipush 200, 3) := by decide +kernel
theorem d_X12_countOf_63 : decode cX12_countOf 63 = .ok (.if_icmp .le 7, 3) := by decide +kernel
theorem d_X12_countOf_66 : decode cX12_countOf 66 = .ok (.sipush 201, 3) := by decide +kernel
theorem d_X12_countOf_69 : decode cX12_countOf 69 = .ok (.ireturn, 1) := by decide +kernel
theorem d_X12_countOf_70 : decode cX12_countOf 70 = .ok (.iinc 4 1, 3) := by decide +kernel
theorem d_X12_countOf_73 : decode cX12_countOf 73 = .ok (.goto (-68), 3) := by decide +kernel
theorem d_X12_countOf_76 : decode cX12_countOf 76 = .ok (.iload_n 3, 1) := by decide +kernel
theorem d_X12_countOf_77 : decode cX12_countOf 77 = .ok (.ireturn, 1) := by decide +kernel
def f_X12_countOf_70 (F : Nat) (kb5 : Int32 → Int32 → Int32 → Int32 → Int32 → sm_M → Option (Int32)) (x0 : Int32) (x1 : Int32) (x2 : Int32) (x3 : Int32) (x4 : Int32) (M : sm_M) : Option (Int32) := kb5 x0 x1 x2 x3 (x4 + 1) M
set_option maxRecDepth 100000 in
set_option maxHeartbeats 4000000 in
theorem j_X12_countOf_70 {sk : List sm_Sh} (hx : sm_ext skM sk) (F : Nat) (kb5 : Int32 → Int32 → Int32 → Int32 → Int32 → sm_M → Option (Int32)) (hkb5 : ∀ (x0 : Int32) (x1 : Int32) (x2 : Int32) (x3 : Int32) (x4 : Int32) (M : sm_M) (r : Int32), kb5 x0 x1 x2 x3 x4 M = some r → sm_J (md_X12_countOf, 0, sk, .inl (some (.int r)), M) 5 [some (.int x0), some (.int x1), some (.int x2), some (.int x3), some (.int x4)] [] M) : ∀ (x0 : Int32) (x1 : Int32) (x2 : Int32) (x3 : Int32) (x4 : Int32) (M : sm_M) (r : Int32), f_X12_countOf_70 F kb5 x0 x1 x2 x3 x4 M = some r → sm_J (md_X12_countOf, 0, sk, .inl (some (.int r)), M) 70 [some (.int x0), some (.int x1), some (.int x2), some (.int x3), some (.int x4)] [] M := by
  intro x0 x1 x2 x3 x4  M r h
  unfold f_X12_countOf_70 at h
  refine sm_iinc (q := 73) (v := (x4 + 1)) (lt := [some (.int x0), some (.int x1), some (.int x2), some (.int x3), some (.int (x4 + 1))]) d_X12_countOf_70 rfl rfl (ii_1 _) (Nat.le_of_ble_eq_true rfl) rfl rfl ?_
  refine sm_goto (t := 5) d_X12_countOf_73 rfl ?_
  exact hkb5 x0 x1 x2 x3 (x4 + 1) M _ h
def f_X12_countOf_53 (F : Nat) (kb5 : Int32 → Int32 → Int32 → Int32 → Int32 → sm_M → Option (Int32)) (x0 : Int32) (x1 : Int32) (x2 : Int32) (x4 : Int32) (y0 : Int32) (M : sm_M) : Option (Int32) := if x0 = (3 : Int32) then (f_X12_countOf_70 F kb5 x0 x1 x2 y0 x4 M) else (if y0 ≤ (200 : Int32) then (f_X12_countOf_70 F kb5 x0 x1 x2 y0 x4 M) else (some (201 : Int32)))
set_option maxRecDepth 100000 in
set_option maxHeartbeats 4000000 in
theorem j_X12_countOf_53 {sk : List sm_Sh} (hx : sm_ext skM sk) (F : Nat) (kb5 : Int32 → Int32 → Int32 → Int32 → Int32 → sm_M → Option (Int32)) (hkb5 : ∀ (x0 : Int32) (x1 : Int32) (x2 : Int32) (x3 : Int32) (x4 : Int32) (M : sm_M) (r : Int32), kb5 x0 x1 x2 x3 x4 M = some r → sm_J (md_X12_countOf, 0, sk, .inl (some (.int r)), M) 5 [some (.int x0), some (.int x1), some (.int x2), some (.int x3), some (.int x4)] [] M) : ∀ (x0 : Int32) (x1 : Int32) (x2 : Int32) (x4 : Int32) (y0 : Int32) (M : sm_M) (r : Int32), f_X12_countOf_53 F kb5 x0 x1 x2 x4 y0 M = some r → sm_J (md_X12_countOf, 0, sk, .inl (some (.int r)), M) 53 [some (.int x0), some (.int x1), some (.int x2), none, some (.int x4)] [.int y0] M := by
  intro x0 x1 x2 x4 y0  M r h
  unfold f_X12_countOf_53 at h
  refine sm_istore_n (q := 54) (lt := [some (.int x0), some (.int x1), some (.int x2), some (.int y0), some (.int x4)]) d_X12_countOf_53 rfl (Nat.le_of_ble_eq_true rfl) rfl rfl ?_
  refine sm_iload_n (q := 55) d_X12_countOf_54 rfl rfl ?_
  refine sm_iconst (q := 56) d_X12_countOf_55 rfl ci_3 ?_
  refine sm_icmp_eq (q := 59) (t := 70) d_X12_countOf_56 rfl rfl (fun c1 => ?_) (fun c1 => ?_)
  · replace h := sm_it c1 h
    exact j_X12_countOf_70 hx F kb5 hkb5 x0 x1 x2 y0 x4 M _ h
  · replace h := sm_if c1 h
    refine sm_iload_n (q := 60) d_X12_countOf_59 rfl rfl ?_
    refine sm_sipush (q := 63) d_X12_countOf_60 rfl cs_200 ?_
    refine sm_icmp_le (q := 66) (t := 70) d_X12_countOf_63 rfl rfl (fun c2 => ?_) (fun c2 => ?_)
    · replace h := sm_it c2 h
      exact j_X12_countOf_70 hx F kb5 hkb5 x0 x1 x2 y0 x4 M _ h
    · replace h := sm_if c2 h
      refine sm_sipush (q := 69) d_X12_countOf_66 rfl cs_201 ?_
      obtain rfl := Option.some.inj h
      exact sm_iret d_X12_countOf_69 rfl rfl rfl rfl
def f_X12_countOf_36 (F : Nat) (kb5 : Int32 → Int32 → Int32 → Int32 → Int32 → sm_M → Option (Int32)) (x0 : Int32) (x1 : Int32) (x2 : Int32) (x4 : Int32) (y0 : Int32) (y1 : Int32) (M : sm_M) : Option (Int32) := if x0 = (3 : Int32) then (sm_g (sm_nz (x4 + (1 : Int32))) (f_X12_countOf_53 F kb5 x0 x1 x2 x4 ((y0 * y1) / (x4 + (1 : Int32))) M)) else (f_X12_countOf_53 F kb5 x0 x1 x2 x4 (y0 * y1) M)
set_option maxRecDepth 100000 in
set_option maxHeartbeats 4000000 in
theorem j_X12_countOf_36 {sk : List sm_Sh} (hx : sm_ext skM sk) (F : Nat) (kb5 : Int32 → Int32 → Int32 → Int32 → Int32 → sm_M → Option (Int32)) (hkb5 : ∀ (x0 : Int32) (x1 : Int32) (x2 : Int32) (x3 : Int32) (x4 : Int32) (M : sm_M) (r : Int32), kb5 x0 x1 x2 x3 x4 M = some r → sm_J (md_X12_countOf, 0, sk, .inl (some (.int r)), M) 5 [some (.int x0), some (.int x1), some (.int x2), some (.int x3), some (.int x4)] [] M) : ∀ (x0 : Int32) (x1 : Int32) (x2 : Int32) (x4 : Int32) (y0 : Int32) (y1 : Int32) (M : sm_M) (r : Int32), f_X12_countOf_36 F kb5 x0 x1 x2 x4 y0 y1 M = some r → sm_J (md_X12_countOf, 0, sk, .inl (some (.int r)), M) 36 [some (.int x0), some (.int x1), some (.int x2), none, some (.int x4)] [.int y1, .int y0] M := by
  intro x0 x1 x2 x4 y0 y1  M r h
  unfold f_X12_countOf_36 at h
  refine sm_imul (q := 37) d_X12_countOf_36 rfl ?_
  refine sm_istore_n (q := 38) (lt := [some (.int x0), some (.int x1), some (.int x2), some (.int (y0 * y1)), some (.int x4)]) d_X12_countOf_37 rfl (Nat.le_of_ble_eq_true rfl) rfl rfl ?_
  refine sm_iload_n (q := 39) d_X12_countOf_38 rfl rfl ?_
  refine sm_iconst (q := 40) d_X12_countOf_39 rfl ci_3 ?_
  refine sm_icmp_ne (q := 43) (t := 52) d_X12_countOf_40 rfl rfl (fun c1 => ?_) (fun c1 => ?_)
  · replace h := sm_if c1 h
    refine sm_iload_n (q := 53) d_X12_countOf_52 rfl rfl ?_
    refine sm_fg [3] ?_
    exact j_X12_countOf_53 hx F kb5 hkb5 x0 x1 x2 x4 (y0 * y1) M _ h
  · replace h := sm_it c1 h
    refine sm_iload_n (q := 44) d_X12_countOf_43 rfl rfl ?_
    refine sm_iload (q := 46) d_X12_countOf_44 rfl rfl ?_
    refine sm_iconst (q := 47) d_X12_countOf_46 rfl ci_1 ?_
    refine sm_iadd (q := 48) d_X12_countOf_47 rfl ?_
    obtain ⟨g2, h⟩ := sm_gt h
    refine sm_idiv (q := 49) d_X12_countOf_48 rfl (sm_nz_of g2) ?_
    refine sm_goto (t := 53) d_X12_countOf_49 rfl ?_
    refine sm_fg [3] ?_
    exact j_X12_countOf_53 hx F kb5 hkb5 x0 x1 x2 x4 ((y0 * y1) / (x4 + (1 : Int32))) M _ h
def f_X12_countOf_5b (F : Nat) (kb5 : Int32 → Int32 → Int32 → Int32 → Int32 → sm_M → Option (Int32)) (x0 : Int32) (x1 : Int32) (x2 : Int32) (x3 : Int32) (x4 : Int32) (M : sm_M) : Option (Int32) := if x1 ≤ x4 then (some x3) else (if x0 = 0 then (f_X12_countOf_36 F kb5 x0 x1 x2 x4 x3 x2 M) else (if x0 = (1 : Int32) then (f_X12_countOf_36 F kb5 x0 x1 x2 x4 x3 (x1 - x4) M) else (f_X12_countOf_36 F kb5 x0 x1 x2 x4 x3 (x2 - x4) M)))
set_option maxRecDepth 100000 in
set_option maxHeartbeats 4000000 in
theorem j_X12_countOf_5b {sk : List sm_Sh} (hx : sm_ext skM sk) (F : Nat) (kb5 : Int32 → Int32 → Int32 → Int32 → Int32 → sm_M → Option (Int32)) (hkb5 : ∀ (x0 : Int32) (x1 : Int32) (x2 : Int32) (x3 : Int32) (x4 : Int32) (M : sm_M) (r : Int32), kb5 x0 x1 x2 x3 x4 M = some r → sm_J (md_X12_countOf, 0, sk, .inl (some (.int r)), M) 5 [some (.int x0), some (.int x1), some (.int x2), some (.int x3), some (.int x4)] [] M) : ∀ (x0 : Int32) (x1 : Int32) (x2 : Int32) (x3 : Int32) (x4 : Int32) (M : sm_M) (r : Int32), f_X12_countOf_5b F kb5 x0 x1 x2 x3 x4 M = some r → sm_J (md_X12_countOf, 0, sk, .inl (some (.int r)), M) 5 [some (.int x0), some (.int x1), some (.int x2), some (.int x3), some (.int x4)] [] M := by
  intro x0 x1 x2 x3 x4  M r h
  unfold f_X12_countOf_5b at h
  refine sm_iload (q := 7) d_X12_countOf_5 rfl rfl ?_
  refine sm_iload_n (q := 8) d_X12_countOf_7 rfl rfl ?_
  refine sm_icmp_ge (q := 11) (t := 76) d_X12_countOf_8 rfl rfl (fun c1 => ?_) (fun c1 => ?_)
  · replace h := sm_it c1 h
    refine sm_iload_n (q := 77) d_X12_countOf_76 rfl rfl ?_
    obtain rfl := Option.some.inj h
    exact sm_iret d_X12_countOf_77 rfl rfl rfl rfl
  · replace h := sm_if c1 h
    refine sm_iload_n (q := 12) d_X12_countOf_11 rfl rfl ?_
    refine sm_iload_n (q := 13) d_X12_countOf_12 rfl rfl ?_
    refine sm_if_ne (q := 16) (t := 20) d_X12_countOf_13 rfl rfl (fun c2 => ?_) (fun c2 => ?_)
    · replace h := sm_if c2 h
      refine sm_iload_n (q := 21) d_X12_countOf_20 rfl rfl ?_
      refine sm_iconst (q := 22) d_X12_countOf_21 rfl ci_1 ?_
      refine sm_icmp_ne (q := 25) (t := 32) d_X12_countOf_22 rfl rfl (fun c3 => ?_) (fun c3 => ?_)
      · replace h := sm_if c3 h
        refine sm_iload_n (q := 33) d_X12_countOf_32 rfl rfl ?_
        refine sm_iload (q := 35) d_X12_countOf_33 rfl rfl ?_
        refine sm_isub (q := 36) d_X12_countOf_35 rfl ?_
        refine sm_fg [3] ?_
        exact j_X12_countOf_36 hx F kb5 hkb5 x0 x1 x2 x4 x3 (x2 - x4) M _ h
      · replace h := sm_it c3 h
        refine sm_iload_n (q := 26) d_X12_countOf_25 rfl rfl ?_
        refine sm_iload (q := 28) d_X12_countOf_26 rfl rfl ?_
        refine sm_isub (q := 29) d_X12_countOf_28 rfl ?_
        refine sm_goto (t := 36) d_X12_countOf_29 rfl ?_
        refine sm_fg [3] ?_
        exact j_X12_countOf_36 hx F kb5 hkb5 x0 x1 x2 x4 x3 (x1 - x4) M _ h
    · replace h := sm_it c2 h
      refine sm_iload_n (q := 17) d_X12_countOf_16 rfl rfl ?_
      refine sm_goto (t := 36) d_X12_countOf_17 rfl ?_
      refine sm_fg [3] ?_
      exact j_X12_countOf_36 hx F kb5 hkb5 x0 x1 x2 x4 x3 x2 M _ h
def f_X12_countOf_5 (F : Nat) (n : Nat) : Int32 → Int32 → Int32 → Int32 → Int32 → sm_M → Option (Int32) := match n with
 | 0 => fun _ _ _ _ _ _ => none
 | n + 1 => f_X12_countOf_5b F (f_X12_countOf_5 F n)
theorem j_X12_countOf_5 {sk : List sm_Sh} (hx : sm_ext skM sk) (F : Nat) : ∀ (n : Nat) (x0 : Int32) (x1 : Int32) (x2 : Int32) (x3 : Int32) (x4 : Int32) (M : sm_M) (r : Int32), f_X12_countOf_5 F n x0 x1 x2 x3 x4 M = some r → sm_J (md_X12_countOf, 0, sk, .inl (some (.int r)), M) 5 [some (.int x0), some (.int x1), some (.int x2), some (.int x3), some (.int x4)] [] M := by
  intro n
  induction n with
  | zero => intro x0 x1 x2 x3 x4  M r h; exact nomatch (show (none : Option (Int32)) = some r from h)
  | succ n ih => exact j_X12_countOf_5b hx F (f_X12_countOf_5 F n) ih
def f_X12_countOf (F : Nat) (x0 : Int32) (x1 : Int32) (x2 : Int32) (M : sm_M) : Option (Int32) := f_X12_countOf_5 F F x0 x1 x2 (1 : Int32) (0 : Int32) M
set_option maxRecDepth 100000 in
set_option maxHeartbeats 4000000 in
theorem j_X12_countOf {sk : List sm_Sh} (hx : sm_ext skM sk) (F : Nat) : ∀ (x0 : Int32) (x1 : Int32) (x2 : Int32) (M : sm_M) (r : Int32), f_X12_countOf F x0 x1 x2 M = some r → sm_J (md_X12_countOf, 0, sk, .inl (some (.int r)), M) 0 [some (.int x0), some (.int x1), some (.int x2), none, none] [] M := by
  intro x0 x1 x2  M r h
  unfold f_X12_countOf at h
  refine sm_iconst (q := 1) d_X12_countOf_0 rfl ci_1 ?_
  refine sm_istore_n (q := 2) (lt := [some (.int x0), some (.int x1), some (.int x2), some (.int (1 : Int32)), none]) d_X12_countOf_1 rfl (Nat.le_of_ble_eq_true rfl) rfl rfl ?_
  refine sm_iconst (q := 3) d_X12_countOf_2 rfl ci_0 ?_
  refine sm_istore (q := 5) (lt := [some (.int x0), some (.int x1), some (.int x2), some (.int (1 : Int32)), some (.int (0 : Int32))]) d_X12_countOf_3 rfl (Nat.le_of_ble_eq_true rfl) rfl rfl ?_
  exact j_X12_countOf_5 hx F F x0 x1 x2 (1 : Int32) (0 : Int32) M _ h
theorem c_X12_countOf {sk : List sm_Sh} (hx : sm_ext skM sk) (F : Nat) (x0 : Int32) (x1 : Int32) (x2 : Int32) (M : sm_M) (r : Int32) (h : f_X12_countOf F x0 x1 x2 M = some r) : sm_Ct yX12_countOf md_X12_countOf 0 sk [.int x0, .int x1, .int x2] M (.inl (some (.int r))) M := sm_enter 2 pn_X12 rfl (Nat.le_of_ble_eq_true rfl) rfl (j_X12_countOf hx F x0 x1 x2 M r h)
/-! UniversalCyclesModel.digit(III)I -/
theorem d_X12_digit_0 : decode cX12_digit 0 = .ok (.iload_n 0, 1) := by decide +kernel
theorem d_X12_digit_1 : decode cX12_digit 1 = .ok (.istore_n 3, 1) := by decide +kernel
theorem d_X12_digit_2 : decode cX12_digit 2 = .ok (.iload_n 2, 1) := by decide +kernel
theorem d_X12_digit_3 : decode cX12_digit 3 = .ok (.iconst 1, 1) := by decide +kernel
theorem d_X12_digit_4 : decode cX12_digit 4 = .ok (.iadd, 1) := by decide +kernel
theorem d_X12_digit_5 : decode cX12_digit 5 = .ok (.istore 4, 2) := by decide +kernel
theorem d_X12_digit_7 : decode cX12_digit 7 = .ok (.iload 4, 2) := by decide +kernel
theorem d_X12_digit_9 : decode cX12_digit 9 = .ok (.iload_n 1, 1) := by decide +kernel
theorem d_X12_digit_10 : decode cX12_digit 10 = .ok (.if_icmp .ge 14, 3) := by decide +kernel
theorem d_X12_digit_13 : decode cX12_digit 13 = .ok (.iload_n 3, 1) := by decide +kernel
theorem d_X12_digit_14 : decode cX12_digit 14 = .ok (.bipush 8, 2) := by decide +kernel
theorem d_X12_digit_16 : decode cX12_digit 16 = .ok (.idiv, 1) := by decide +kernel
theorem d_X12_digit_17 : decode cX12_digit 17 = .ok (.istore_n 3, 1) := by decide +kernel
theorem d_X12_digit_18 : decode cX12_digit 18 = .ok (.iinc 4 1, 3) := by decide +kernel
theorem d_X12_digit_21 : decode cX12_digit 21 = .ok (.goto (-14), 3) := by decide +kernel
theorem d_X12_digit_24 : decode cX12_digit 24 = .ok (.iload_n 3, 1) := by decide +kernel
theorem d_X12_digit_25 : decode cX12_digit 25 = .ok (.bipush 8, 2) := by decide +kernel
theorem d_X12_digit_27 : decode cX12_digit 27 = .ok (.irem, 1) := by decide +kernel
theorem d_X12_digit_28 : decode cX12_digit 28 = .ok (.ireturn, 1) := by decide +kernel
def f_X12_digit_7b (F : Nat) (kb7 : Int32 → Int32 → Int32 → sm_M → Option (Int32)) (x1 : Int32) (x3 : Int32) (x4 : Int32) (M : sm_M) : Option (Int32) := if x1 ≤ x4 then (some (x3 - x3 / (8 : Int32) * (8 : Int32))) else (kb7 x1 (x3 / (8 : Int32)) (x4 + 1) M)
set_option maxRecDepth 100000 in
set_option maxHeartbeats 4000000 in
theorem j_X12_digit_7b {sk : List sm_Sh} (hx : sm_ext skM sk) (F : Nat) (kb7 : Int32 → Int32 → Int32 → sm_M → Option (Int32)) (hkb7 : ∀ (x1 : Int32) (x3 : Int32) (x4 : Int32) (M : sm_M) (r : Int32), kb7 x1 x3 x4 M = some r → sm_J (md_X12_digit, 0, sk, .inl (some (.int r)), M) 7 [none, some (.int x1), none, some (.int x3), some (.int x4)] [] M) : ∀ (x1 : Int32) (x3 : Int32) (x4 : Int32) (M : sm_M) (r : Int32), f_X12_digit_7b F kb7 x1 x3 x4 M = some r → sm_J (md_X12_digit, 0, sk, .inl (some (.int r)), M) 7 [none, some (.int x1), none, some (.int x3), some (.int x4)] [] M := by
  intro x1 x3 x4  M r h
  unfold f_X12_digit_7b at h
  refine sm_iload (q := 9) d_X12_digit_7 rfl rfl ?_
  refine sm_iload_n (q := 10) d_X12_digit_9 rfl rfl ?_
  refine sm_icmp_ge (q := 13) (t := 24) d_X12_digit_10 rfl rfl (fun c1 => ?_) (fun c1 => ?_)
  · replace h := sm_it c1 h
    refine sm_iload_n (q := 25) d_X12_digit_24 rfl rfl ?_
    refine sm_bipush (q := 27) d_X12_digit_25 rfl cb_8 ?_
    refine sm_irem (q := 28) d_X12_digit_27 rfl (by decide) ?_
    obtain rfl := Option.some.inj h
    exact sm_iret d_X12_digit_28 rfl rfl rfl rfl
  · replace h := sm_if c1 h
    refine sm_iload_n (q := 14) d_X12_digit_13 rfl rfl ?_
    refine sm_bipush (q := 16) d_X12_digit_14 rfl cb_8 ?_
    refine sm_idiv (q := 17) d_X12_digit_16 rfl (by decide) ?_
    refine sm_istore_n (q := 18) (lt := [none, some (.int x1), none, some (.int (x3 / (8 : Int32))), some (.int x4)]) d_X12_digit_17 rfl (Nat.le_of_ble_eq_true rfl) rfl rfl ?_
    refine sm_iinc (q := 21) (v := (x4 + 1)) (lt := [none, some (.int x1), none, some (.int (x3 / (8 : Int32))), some (.int (x4 + 1))]) d_X12_digit_18 rfl rfl (ii_1 _) (Nat.le_of_ble_eq_true rfl) rfl rfl ?_
    refine sm_goto (t := 7) d_X12_digit_21 rfl ?_
    exact hkb7 x1 (x3 / (8 : Int32)) (x4 + 1) M _ h
def f_X12_digit_7 (F : Nat) (n : Nat) : Int32 → Int32 → Int32 → sm_M → Option (Int32) := match n with
 | 0 => fun _ _ _ _ => none
 | n + 1 => f_X12_digit_7b F (f_X12_digit_7 F n)
theorem j_X12_digit_7 {sk : List sm_Sh} (hx : sm_ext skM sk) (F : Nat) : ∀ (n : Nat) (x1 : Int32) (x3 : Int32) (x4 : Int32) (M : sm_M) (r : Int32), f_X12_digit_7 F n x1 x3 x4 M = some r → sm_J (md_X12_digit, 0, sk, .inl (some (.int r)), M) 7 [none, some (.int x1), none, some (.int x3), some (.int x4)] [] M := by
  intro n
  induction n with
  | zero => intro x1 x3 x4  M r h; exact nomatch (show (none : Option (Int32)) = some r from h)
  | succ n ih => exact j_X12_digit_7b hx F (f_X12_digit_7 F n) ih
def f_X12_digit (F : Nat) (x0 : Int32) (x1 : Int32) (x2 : Int32) (M : sm_M) : Option (Int32) := f_X12_digit_7 F F x1 x0 (x2 + (1 : Int32)) M
set_option maxRecDepth 100000 in
set_option maxHeartbeats 4000000 in
theorem j_X12_digit {sk : List sm_Sh} (hx : sm_ext skM sk) (F : Nat) : ∀ (x0 : Int32) (x1 : Int32) (x2 : Int32) (M : sm_M) (r : Int32), f_X12_digit F x0 x1 x2 M = some r → sm_J (md_X12_digit, 0, sk, .inl (some (.int r)), M) 0 [some (.int x0), some (.int x1), some (.int x2), none, none] [] M := by
  intro x0 x1 x2  M r h
  unfold f_X12_digit at h
  refine sm_iload_n (q := 1) d_X12_digit_0 rfl rfl ?_
  refine sm_istore_n (q := 2) (lt := [some (.int x0), some (.int x1), some (.int x2), some (.int x0), none]) d_X12_digit_1 rfl (Nat.le_of_ble_eq_true rfl) rfl rfl ?_
  refine sm_iload_n (q := 3) d_X12_digit_2 rfl rfl ?_
  refine sm_iconst (q := 4) d_X12_digit_3 rfl ci_1 ?_
  refine sm_iadd (q := 5) d_X12_digit_4 rfl ?_
  refine sm_istore (q := 7) (lt := [some (.int x0), some (.int x1), some (.int x2), some (.int x0), some (.int (x2 + (1 : Int32)))]) d_X12_digit_5 rfl (Nat.le_of_ble_eq_true rfl) rfl rfl ?_
  refine sm_fg [0, 2] ?_
  exact j_X12_digit_7 hx F F x1 x0 (x2 + (1 : Int32)) M _ h
theorem c_X12_digit {sk : List sm_Sh} (hx : sm_ext skM sk) (F : Nat) (x0 : Int32) (x1 : Int32) (x2 : Int32) (M : sm_M) (r : Int32) (h : f_X12_digit F x0 x1 x2 M = some r) : sm_Ct yX12_digit md_X12_digit 0 sk [.int x0, .int x1, .int x2] M (.inl (some (.int r))) M := sm_enter 2 pn_X12 rfl (Nat.le_of_ble_eq_true rfl) rfl (j_X12_digit hx F x0 x1 x2 M r h)
/-! UniversalCyclesModel.isOfKind(II)Z -/
theorem d_X12_isOfKind_0 : decode cX12_isOfKind 0 = .ok (.aload_n 0, 1) := by decide +kernel
theorem d_X12_isOfKind_1 : decode cX12_isOfKind 1 = .ok (.getfield 90, 3) := by decide +kernel
theorem d_X12_isOfKind_4 : decode cX12_isOfKind 4 = .ok (.iconst 1, 1) := by decide +kernel
theorem d_X12_isOfKind_5 : decode cX12_isOfKind 5 = .ok (.if_icmp .ne 7, 3) := by decide +kernel
theorem d_X12_isOfKind_8 : decode cX12_isOfKind 8 = .ok (.iload_n 2, 1) := by decide +kernel
theorem d_X12_isOfKind_9 : decode cX12_isOfKind 9 = .ok (.goto 7, 3) := by decide +kernel
theorem d_X12_isOfKind_12 : decode cX12_isOfKind 12 = .ok (.aload_n 0, 1) := by decide +kernel
theorem d_X12_isOfKind_13 : decode cX12_isOfKind 13 = .ok (.getfield 16, 3) := by decide +kernel
theorem d_X12_isOfKind_16 : decode cX12_isOfKind 16 = .ok (.istore_n 3, 1) := by decide +kernel
theorem d_X12_isOfKind_17 : decode cX12_isOfKind 17 = .ok (.iconst 0, 1) := by decide +kernel
theorem d_X12_isOfKind_18 : decode cX12_isOfKind 18 = .ok (.istore 4, 2) := by decide +kernel
theorem d_X12_isOfKind_20 : decode cX12_isOfKind 20 = .ok (.iload 4, 2) := by decide +kernel
theorem d_X12_isOfKind_22 : decode cX12_isOfKind 22 = .ok (.iload_n 2, 1) := by decide +kernel
theorem d_X12_isOfKind_23 : decode cX12_isOfKind 23 = .ok (.if_icmp .ge 85, 3) := by decide +kernel
theorem d_X12_isOfKind_26 : decode cX12_isOfKind 26 = .ok (.iload_n 1, 1) := by decide +kernel
theorem d_X12_isOfKind_27 : decode cX12_isOfKind 27 = .ok (.iload_n 2, 1) := by decide +kernel
theorem d_X12_isOfKind_28 : decode cX12_isOfKind 28 = .ok (.iload 4, 2) := by decide +kernel
theorem d_X12_isOfKind_30 : decode cX12_isOfKind 30 = .ok (.invokestatic 93, 3) := by decide +kernel
theorem d_X12_isOfKind_33 : decode cX12_isOfKind 33 = .ok (.istore 5, 2) := by decide +kernel
theorem d_X12_isOfKind_35 : decode cX12_isOfKind 35 = .ok (.iload 5, 2) := by decide +kernel
theorem d_X12_isOfKind_37 : decode cX12_isOfKind 37 = .ok (.iload_n 3, 1) := by decide +kernel
theorem d_X12_isOfKind_38 : decode cX12_isOfKind 38 = .ok (.if_icmp .lt 5, 3) := by decide +kernel
theorem d_X12_isOfKind_41 : decode cX12_isOfKind 41 = .ok (.iconst 0, 1) := by decide +kernel
theorem d_X12_isOfKind_42 : decode cX12_isOfKind 42 = .ok (.ireturn, 1) := by decide +kernel
theorem d_X12_isOfKind_43 : decode cX12_isOfKind 43 = .ok (.iconst 0, 1) := by decide +kernel
theorem d_X12_isOfKind_44 : decode cX12_isOfKind 44 = .ok (.istore 6, 2) := by decide +kernel
theorem d_X12_isOfKind_46 : decode cX12_isOfKind 46 = .ok (.iload 6, 2) := by decide +kernel
theorem d_X12_isOfKind_48 : decode cX12_isOfKind 48 = .ok (.iload 4, 2) := by decide +kernel
theorem d_X12_isOfKind_50 : decode cX12_isOfKind 50 = .ok (.if_icmp .ge 52, 3) := by decide +kernel
theorem d_X12_isOfKind_53 : decode cX12_isOfKind 53 = .ok (.iload_n 1, 1) := by decide +kernel
theorem d_X12_isOfKind_54 : decode cX12_isOfKind 54 = .ok (.iload_n 2, 1) := by decide +kernel
theorem d_X12_isOfKind_55 : decode cX12_isOfKind 55 = .ok (.iload 6, 2) := by decide +kernel
theorem d_X12_isOfKind_57 : decode cX12_isOfKind 57 = .ok (.invokestatic 93, 3) := by decide +kernel
theorem d_X12_isOfKind_60 : decode cX12_isOfKind 60 = .ok (.istore 7, 2) := by decide +kernel
theorem d_X12_isOfKind_62 : decode cX12_isOfKind 62 = .ok (.aload_n 0, 1) := by decide +kernel
theorem d_X12_isOfKind_63 : decode cX12_isOfKind 63 = .ok (.getfield 90, 3) := by decide +kernel
theorem d_X12_isOfKind_66 : decode cX12_isOfKind 66 = .ok (.iconst 3, 1) := by decide +kernel
theorem d_X12_isOfKind_67 : decode cX12_isOfKind 67 = .ok (.if_icmp .ne 13, 3) := by decide +kernel
theorem d_X12_isOfKind_70 : decode cX12_isOfKind 70 = .ok (.iload 7, 2) := by decide +kernel
theorem d_X12_isOfKind_72 : decode cX12_isOfKind 72 = .ok (.iload 5, 2) := by decide +kernel
theorem d_X12_isOfKind_74 : decode cX12_isOfKind 74 = .ok (.if_icmp .lt 22, 3) := by decide +kernel
theorem d_X12_isOfKind_77 : decode cX12_isOfKind 77 = .ok (.goto 17, 3) := by decide +kernel
theorem d_X12_isOfKind_80 : decode cX12_isOfKind 80 = .ok (.aload_n 0, 1) := by decide +kernel
theorem d_X12_isOfKind_81 : decode cX12_isOfKind 81 = .ok (.getfield 90, 3) := by decide +kernel
theorem d_X12_isOfKind_84 : decode cX12_isOfKind 84 = .ok (.ifCond .eq 12, 3) := by decide +kernel
theorem d_X12_isOfKind_87 : decode cX12_isOfKind 87 = .ok (.iload 7, 2) := by decide +kernel
theorem d_X12_isOfKind_89 : decode cX12_isOfKind 89 = .ok (.iload 5, 2) := by decide +kernel
theorem d_X12_isOfKind_91 : decode cX12_isOfKind 91 = .ok (.if_icmp .ne 5, 3) := by decide +kernel
theorem d_X12_isOfKind_94 : decode cX12_isOfKind 94 = .ok (.iconst 0, 1) := by decide +kernel
theorem d_X12_isOfKind_95 : decode cX12_isOfKind 95 = .ok (.ireturn, 1) := by decide +kernel
theorem d_X12_isOfKind_96 : decode cX12_isOfKind 96 = .ok (.iinc 6 1, 3) := by decide +kernel
theorem d_X12_isOfKind_99 : decode cX12_isOfKind 99 = .ok (.goto (-53), 3) := by decide +kernel
theorem d_X12_isOfKind_102 : decode cX12_isOfKind 102 = .ok (.iinc 4 1, 3) := by decide +kernel
theorem d_X12_isOfKind_105 : decode cX12_isOfKind 105 = .ok (.goto (-85), 3) := by decide +kernel
theorem d_X12_isOfKind_108 : decode cX12_isOfKind 108 = .ok (.iconst 1, 1) := by decide +kernel
theorem d_X12_isOfKind_109 : decode cX12_isOfKind 109 = .ok (.ireturn, 1) := by decide +kernel
def f_X12_isOfKind_94 (F : Nat) (M : sm_M) : Option (Int32) := some (0 : Int32)
set_option maxRecDepth 100000 in
set_option maxHeartbeats 4000000 in
theorem j_X12_isOfKind_94 {sk : List sm_Sh} (hx : sm_ext skM sk) (F : Nat) : ∀ (M : sm_M) (r : Int32), f_X12_isOfKind_94 F M = some r → sm_J (md_X12_isOfKind, 1, sk, .inl (some (.int r)), M) 94 [none, none, none, none, none, none, none, none] [] M := by
  intro   M r h
  unfold f_X12_isOfKind_94 at h
  refine sm_iconst (q := 95) d_X12_isOfKind_94 rfl ci_0 ?_
  obtain rfl := Option.some.inj h
  exact sm_iret d_X12_isOfKind_95 rfl (by decide) rfl rfl
def f_X12_isOfKind_96 (F : Nat) (kb20 : Int32 → Int32 → Int32 → Int32 → sm_M → Option (Int32)) (kb46 : Int32 → Int32 → Int32 → Int32 → Int32 → Int32 → sm_M → Option (Int32)) (x1 : Int32) (x2 : Int32) (x3 : Int32) (x4 : Int32) (x5 : Int32) (x6 : Int32) (M : sm_M) : Option (Int32) := kb46 x1 x2 x3 x4 x5 (x6 + 1) M
set_option maxRecDepth 100000 in
set_option maxHeartbeats 4000000 in
theorem j_X12_isOfKind_96 {sk : List sm_Sh} (hx : sm_ext skM sk) (F : Nat) (kb20 : Int32 → Int32 → Int32 → Int32 → sm_M → Option (Int32)) (kb46 : Int32 → Int32 → Int32 → Int32 → Int32 → Int32 → sm_M → Option (Int32)) (hkb20 : ∀ (x1 : Int32) (x2 : Int32) (x3 : Int32) (x4 : Int32) (M : sm_M) (r : Int32), kb20 x1 x2 x3 x4 M = some r → sm_J (md_X12_isOfKind, 1, sk, .inl (some (.int r)), M) 20 [some (.ref 80), some (.int x1), some (.int x2), some (.int x3), some (.int x4), none, none, none] [] M) (hkb46 : ∀ (x1 : Int32) (x2 : Int32) (x3 : Int32) (x4 : Int32) (x5 : Int32) (x6 : Int32) (M : sm_M) (r : Int32), kb46 x1 x2 x3 x4 x5 x6 M = some r → sm_J (md_X12_isOfKind, 1, sk, .inl (some (.int r)), M) 46 [some (.ref 80), some (.int x1), some (.int x2), some (.int x3), some (.int x4), some (.int x5), some (.int x6), none] [] M) : ∀ (x1 : Int32) (x2 : Int32) (x3 : Int32) (x4 : Int32) (x5 : Int32) (x6 : Int32) (M : sm_M) (r : Int32), f_X12_isOfKind_96 F kb20 kb46 x1 x2 x3 x4 x5 x6 M = some r → sm_J (md_X12_isOfKind, 1, sk, .inl (some (.int r)), M) 96 [some (.ref 80), some (.int x1), some (.int x2), some (.int x3), some (.int x4), some (.int x5), some (.int x6), none] [] M := by
  intro x1 x2 x3 x4 x5 x6  M r h
  unfold f_X12_isOfKind_96 at h
  refine sm_iinc (q := 99) (v := (x6 + 1)) (lt := [some (.ref 80), some (.int x1), some (.int x2), some (.int x3), some (.int x4), some (.int x5), some (.int (x6 + 1)), none]) d_X12_isOfKind_96 rfl rfl (ii_1 _) (Nat.le_of_ble_eq_true rfl) rfl rfl ?_
  refine sm_goto (t := 46) d_X12_isOfKind_99 rfl ?_
  exact hkb46 x1 x2 x3 x4 x5 (x6 + 1) M _ h
def f_X12_isOfKind_46b (F : Nat) (kb20 : Int32 → Int32 → Int32 → Int32 → sm_M → Option (Int32)) (kb46 : Int32 → Int32 → Int32 → Int32 → Int32 → Int32 → sm_M → Option (Int32)) (x1 : Int32) (x2 : Int32) (x3 : Int32) (x4 : Int32) (x5 : Int32) (x6 : Int32) (M : sm_M) : Option (Int32) := if x4 ≤ x6 then (kb20 x1 x2 x3 (x4 + 1) M) else ((f_X12_digit F x1 x2 x6 M).bind fun q2 => if (M.1 80 1) = (3 : Int32) then (if q2 < x5 then (f_X12_isOfKind_96 F kb20 kb46 x1 x2 x3 x4 x5 x6 M) else (f_X12_isOfKind_94 F M)) else (if (M.1 80 1) = 0 then (f_X12_isOfKind_96 F kb20 kb46 x1 x2 x3 x4 x5 x6 M) else (if q2 = x5 then (f_X12_isOfKind_94 F M) else (f_X12_isOfKind_96 F kb20 kb46 x1 x2 x3 x4 x5 x6 M))))
set_option maxRecDepth 100000 in
set_option maxHeartbeats 4000000 in
theorem j_X12_isOfKind_46b {sk : List sm_Sh} (hx : sm_ext skM sk) (F : Nat) (kb20 : Int32 → Int32 → Int32 → Int32 → sm_M → Option (Int32)) (kb46 : Int32 → Int32 → Int32 → Int32 → Int32 → Int32 → sm_M → Option (Int32)) (hkb20 : ∀ (x1 : Int32) (x2 : Int32) (x3 : Int32) (x4 : Int32) (M : sm_M) (r : Int32), kb20 x1 x2 x3 x4 M = some r → sm_J (md_X12_isOfKind, 1, sk, .inl (some (.int r)), M) 20 [some (.ref 80), some (.int x1), some (.int x2), some (.int x3), some (.int x4), none, none, none] [] M) (hkb46 : ∀ (x1 : Int32) (x2 : Int32) (x3 : Int32) (x4 : Int32) (x5 : Int32) (x6 : Int32) (M : sm_M) (r : Int32), kb46 x1 x2 x3 x4 x5 x6 M = some r → sm_J (md_X12_isOfKind, 1, sk, .inl (some (.int r)), M) 46 [some (.ref 80), some (.int x1), some (.int x2), some (.int x3), some (.int x4), some (.int x5), some (.int x6), none] [] M) : ∀ (x1 : Int32) (x2 : Int32) (x3 : Int32) (x4 : Int32) (x5 : Int32) (x6 : Int32) (M : sm_M) (r : Int32), f_X12_isOfKind_46b F kb20 kb46 x1 x2 x3 x4 x5 x6 M = some r → sm_J (md_X12_isOfKind, 1, sk, .inl (some (.int r)), M) 46 [some (.ref 80), some (.int x1), some (.int x2), some (.int x3), some (.int x4), some (.int x5), some (.int x6), none] [] M := by
  intro x1 x2 x3 x4 x5 x6  M r h
  unfold f_X12_isOfKind_46b at h
  refine sm_iload (q := 48) d_X12_isOfKind_46 rfl rfl ?_
  refine sm_iload (q := 50) d_X12_isOfKind_48 rfl rfl ?_
  refine sm_icmp_ge (q := 53) (t := 102) d_X12_isOfKind_50 rfl rfl (fun c1 => ?_) (fun c1 => ?_)
  · replace h := sm_it c1 h
    refine sm_iinc (q := 105) (v := (x4 + 1)) (lt := [some (.ref 80), some (.int x1), some (.int x2), some (.int x3), some (.int (x4 + 1)), some (.int x5), some (.int x6), none]) d_X12_isOfKind_102 rfl rfl (ii_1 _) (Nat.le_of_ble_eq_true rfl) rfl rfl ?_
    refine sm_goto (t := 20) d_X12_isOfKind_105 rfl ?_
    refine sm_fg [5, 6] ?_
    exact hkb20 x1 x2 x3 (x4 + 1) M _ h
  · replace h := sm_if c1 h
    refine sm_iload_n (q := 54) d_X12_isOfKind_53 rfl rfl ?_
    refine sm_iload_n (q := 55) d_X12_isOfKind_54 rfl rfl ?_
    refine sm_iload (q := 57) d_X12_isOfKind_55 rfl rfl ?_
    obtain ⟨q2, e2, h⟩ := sm_bd h
    refine sm_callS (q := 60) (d' := 0) [] [.int x1, .int x2, .int x6] d_X12_isOfKind_57 rfl lk_X12_93 rfl (Nat.le_of_ble_eq_true rfl) (Nat.le_of_ble_eq_true rfl) (c_X12_digit hx F x1 x2 x6 M _ e2) (st9 := [.int q2]) rfl ?_
    refine sm_istore (q := 62) (lt := [some (.ref 80), some (.int x1), some (.int x2), some (.int x3), some (.int x4), some (.int x5), some (.int x6), some (.int q2)]) d_X12_isOfKind_60 rfl (Nat.le_of_ble_eq_true rfl) rfl rfl ?_
    refine sm_aload_n (q := 63) d_X12_isOfKind_62 rfl rfl ?_
    refine sm_geti (q := 66) d_X12_isOfKind_63 rfl fl_X12_90 (hx sx_80) rfl ?_
    refine sm_iconst (q := 67) d_X12_isOfKind_66 rfl ci_3 ?_
    refine sm_icmp_ne (q := 70) (t := 80) d_X12_isOfKind_67 rfl rfl (fun c3 => ?_) (fun c3 => ?_)
    · replace h := sm_if c3 h
      refine sm_aload_n (q := 81) d_X12_isOfKind_80 rfl rfl ?_
      refine sm_geti (q := 84) d_X12_isOfKind_81 rfl fl_X12_90 (hx sx_80) rfl ?_
      refine sm_if_eq (q := 87) (t := 96) d_X12_isOfKind_84 rfl rfl (fun c4 => ?_) (fun c4 => ?_)
      · replace h := sm_it c4 h
        refine sm_fg [7] ?_
        exact j_X12_isOfKind_96 hx F kb20 kb46 hkb20 hkb46 x1 x2 x3 x4 x5 x6 M _ h
      · replace h := sm_if c4 h
        refine sm_iload (q := 89) d_X12_isOfKind_87 rfl rfl ?_
        refine sm_iload (q := 91) d_X12_isOfKind_89 rfl rfl ?_
        refine sm_icmp_ne (q := 94) (t := 96) d_X12_isOfKind_91 rfl rfl (fun c5 => ?_) (fun c5 => ?_)
        · replace h := sm_if c5 h
          refine sm_fg [7] ?_
          exact j_X12_isOfKind_96 hx F kb20 kb46 hkb20 hkb46 x1 x2 x3 x4 x5 x6 M _ h
        · replace h := sm_it c5 h
          refine sm_fg [0, 1, 2, 3, 4, 5, 6, 7] ?_
          exact j_X12_isOfKind_94 hx F M _ h
    · replace h := sm_it c3 h
      refine sm_iload (q := 72) d_X12_isOfKind_70 rfl rfl ?_
      refine sm_iload (q := 74) d_X12_isOfKind_72 rfl rfl ?_
      refine sm_icmp_lt (q := 77) (t := 96) d_X12_isOfKind_74 rfl rfl (fun c6 => ?_) (fun c6 => ?_)
      · replace h := sm_it c6 h
        refine sm_fg [7] ?_
        exact j_X12_isOfKind_96 hx F kb20 kb46 hkb20 hkb46 x1 x2 x3 x4 x5 x6 M _ h
      · replace h := sm_if c6 h
        refine sm_goto (t := 94) d_X12_isOfKind_77 rfl ?_
        refine sm_fg [0, 1, 2, 3, 4, 5, 6, 7] ?_
        exact j_X12_isOfKind_94 hx F M _ h
def f_X12_isOfKind_46 (F : Nat) (kb20 : Int32 → Int32 → Int32 → Int32 → sm_M → Option (Int32)) (n : Nat) : Int32 → Int32 → Int32 → Int32 → Int32 → Int32 → sm_M → Option (Int32) := match n with
 | 0 => fun _ _ _ _ _ _ _ => none
 | n + 1 => f_X12_isOfKind_46b F kb20 (f_X12_isOfKind_46 F kb20 n)
theorem j_X12_isOfKind_46 {sk : List sm_Sh} (hx : sm_ext skM sk) (F : Nat) (kb20 : Int32 → Int32 → Int32 → Int32 → sm_M → Option (Int32)) (hkb20 : ∀ (x1 : Int32) (x2 : Int32) (x3 : Int32) (x4 : Int32) (M : sm_M) (r : Int32), kb20 x1 x2 x3 x4 M = some r → sm_J (md_X12_isOfKind, 1, sk, .inl (some (.int r)), M) 20 [some (.ref 80), some (.int x1), some (.int x2), some (.int x3), some (.int x4), none, none, none] [] M) : ∀ (n : Nat) (x1 : Int32) (x2 : Int32) (x3 : Int32) (x4 : Int32) (x5 : Int32) (x6 : Int32) (M : sm_M) (r : Int32), f_X12_isOfKind_46 F kb20 n x1 x2 x3 x4 x5 x6 M = some r → sm_J (md_X12_isOfKind, 1, sk, .inl (some (.int r)), M) 46 [some (.ref 80), some (.int x1), some (.int x2), some (.int x3), some (.int x4), some (.int x5), some (.int x6), none] [] M := by
  intro n
  induction n with
  | zero => intro x1 x2 x3 x4 x5 x6  M r h; exact nomatch (show (none : Option (Int32)) = some r from h)
  | succ n ih => exact j_X12_isOfKind_46b hx F kb20 (f_X12_isOfKind_46 F kb20 n) hkb20 ih
def f_X12_isOfKind_20b (F : Nat) (kb20 : Int32 → Int32 → Int32 → Int32 → sm_M → Option (Int32)) (x1 : Int32) (x2 : Int32) (x3 : Int32) (x4 : Int32) (M : sm_M) : Option (Int32) := if x2 ≤ x4 then (some (1 : Int32)) else ((f_X12_digit F x1 x2 x4 M).bind fun q2 => if q2 < x3 then (f_X12_isOfKind_46 F kb20 F x1 x2 x3 x4 q2 (0 : Int32) M) else (some (0 : Int32)))
set_option maxRecDepth 100000 in
set_option maxHeartbeats 4000000 in
theorem j_X12_isOfKind_20b {sk : List sm_Sh} (hx : sm_ext skM sk) (F : Nat) (kb20 : Int32 → Int32 → Int32 → Int32 → sm_M → Option (Int32)) (hkb20 : ∀ (x1 : Int32) (x2 : Int32) (x3 : Int32) (x4 : Int32) (M : sm_M) (r : Int32), kb20 x1 x2 x3 x4 M = some r → sm_J (md_X12_isOfKind, 1, sk, .inl (some (.int r)), M) 20 [some (.ref 80), some (.int x1), some (.int x2), some (.int x3), some (.int x4), none, none, none] [] M) : ∀ (x1 : Int32) (x2 : Int32) (x3 : Int32) (x4 : Int32) (M : sm_M) (r : Int32), f_X12_isOfKind_20b F kb20 x1 x2 x3 x4 M = some r → sm_J (md_X12_isOfKind, 1, sk, .inl (some (.int r)), M) 20 [some (.ref 80), some (.int x1), some (.int x2), some (.int x3), some (.int x4), none, none, none] [] M := by
  intro x1 x2 x3 x4  M r h
  unfold f_X12_isOfKind_20b at h
  refine sm_iload (q := 22) d_X12_isOfKind_20 rfl rfl ?_
  refine sm_iload_n (q := 23) d_X12_isOfKind_22 rfl rfl ?_
  refine sm_icmp_ge (q := 26) (t := 108) d_X12_isOfKind_23 rfl rfl (fun c1 => ?_) (fun c1 => ?_)
  · replace h := sm_it c1 h
    refine sm_iconst (q := 109) d_X12_isOfKind_108 rfl ci_1 ?_
    obtain rfl := Option.some.inj h
    exact sm_iret d_X12_isOfKind_109 rfl (by decide) rfl rfl
  · replace h := sm_if c1 h
    refine sm_iload_n (q := 27) d_X12_isOfKind_26 rfl rfl ?_
    refine sm_iload_n (q := 28) d_X12_isOfKind_27 rfl rfl ?_
    refine sm_iload (q := 30) d_X12_isOfKind_28 rfl rfl ?_
    obtain ⟨q2, e2, h⟩ := sm_bd h
    refine sm_callS (q := 33) (d' := 0) [] [.int x1, .int x2, .int x4] d_X12_isOfKind_30 rfl lk_X12_93 rfl (Nat.le_of_ble_eq_true rfl) (Nat.le_of_ble_eq_true rfl) (c_X12_digit hx F x1 x2 x4 M _ e2) (st9 := [.int q2]) rfl ?_
    refine sm_istore (q := 35) (lt := [some (.ref 80), some (.int x1), some (.int x2), some (.int x3), some (.int x4), some (.int q2), none, none]) d_X12_isOfKind_33 rfl (Nat.le_of_ble_eq_true rfl) rfl rfl ?_
    refine sm_iload (q := 37) d_X12_isOfKind_35 rfl rfl ?_
    refine sm_iload_n (q := 38) d_X12_isOfKind_37 rfl rfl ?_
    refine sm_icmp_lt (q := 41) (t := 43) d_X12_isOfKind_38 rfl rfl (fun c3 => ?_) (fun c3 => ?_)
    · replace h := sm_it c3 h
      refine sm_iconst (q := 44) d_X12_isOfKind_43 rfl ci_0 ?_
      refine sm_istore (q := 46) (lt := [some (.ref 80), some (.int x1), some (.int x2), some (.int x3), some (.int x4), some (.int q2), some (.int (0 : Int32)), none]) d_X12_isOfKind_44 rfl (Nat.le_of_ble_eq_true rfl) rfl rfl ?_
      exact j_X12_isOfKind_46 hx F kb20 hkb20 F x1 x2 x3 x4 q2 (0 : Int32) M _ h
    · replace h := sm_if c3 h
      refine sm_iconst (q := 42) d_X12_isOfKind_41 rfl ci_0 ?_
      obtain rfl := Option.some.inj h
      exact sm_iret d_X12_isOfKind_42 rfl (by decide) rfl rfl
def f_X12_isOfKind_20 (F : Nat) (n : Nat) : Int32 → Int32 → Int32 → Int32 → sm_M → Option (Int32) := match n with
 | 0 => fun _ _ _ _ _ => none
 | n + 1 => f_X12_isOfKind_20b F (f_X12_isOfKind_20 F n)
theorem j_X12_isOfKind_20 {sk : List sm_Sh} (hx : sm_ext skM sk) (F : Nat) : ∀ (n : Nat) (x1 : Int32) (x2 : Int32) (x3 : Int32) (x4 : Int32) (M : sm_M) (r : Int32), f_X12_isOfKind_20 F n x1 x2 x3 x4 M = some r → sm_J (md_X12_isOfKind, 1, sk, .inl (some (.int r)), M) 20 [some (.ref 80), some (.int x1), some (.int x2), some (.int x3), some (.int x4), none, none, none] [] M := by
  intro n
  induction n with
  | zero => intro x1 x2 x3 x4  M r h; exact nomatch (show (none : Option (Int32)) = some r from h)
  | succ n ih => exact j_X12_isOfKind_20b hx F (f_X12_isOfKind_20 F n) ih
def f_X12_isOfKind_16 (F : Nat) (x1 : Int32) (x2 : Int32) (y0 : Int32) (M : sm_M) : Option (Int32) := f_X12_isOfKind_20 F F x1 x2 y0 (0 : Int32) M
set_option maxRecDepth 100000 in
set_option maxHeartbeats 4000000 in
theorem j_X12_isOfKind_16 {sk : List sm_Sh} (hx : sm_ext skM sk) (F : Nat) : ∀ (x1 : Int32) (x2 : Int32) (y0 : Int32) (M : sm_M) (r : Int32), f_X12_isOfKind_16 F x1 x2 y0 M = some r → sm_J (md_X12_isOfKind, 1, sk, .inl (some (.int r)), M) 16 [some (.ref 80), some (.int x1), some (.int x2), none, none, none, none, none] [.int y0] M := by
  intro x1 x2 y0  M r h
  unfold f_X12_isOfKind_16 at h
  refine sm_istore_n (q := 17) (lt := [some (.ref 80), some (.int x1), some (.int x2), some (.int y0), none, none, none, none]) d_X12_isOfKind_16 rfl (Nat.le_of_ble_eq_true rfl) rfl rfl ?_
  refine sm_iconst (q := 18) d_X12_isOfKind_17 rfl ci_0 ?_
  refine sm_istore (q := 20) (lt := [some (.ref 80), some (.int x1), some (.int x2), some (.int y0), some (.int (0 : Int32)), none, none, none]) d_X12_isOfKind_18 rfl (Nat.le_of_ble_eq_true rfl) rfl rfl ?_
  exact j_X12_isOfKind_20 hx F F x1 x2 y0 (0 : Int32) M _ h
def f_X12_isOfKind (F : Nat) (x1 : Int32) (x2 : Int32) (M : sm_M) : Option (Int32) := if (M.1 80 1) = (1 : Int32) then (f_X12_isOfKind_16 F x1 x2 x2 M) else (f_X12_isOfKind_16 F x1 x2 (M.1 80 3) M)
set_option maxRecDepth 100000 in
set_option maxHeartbeats 4000000 in
theorem j_X12_isOfKind {sk : List sm_Sh} (hx : sm_ext skM sk) (F : Nat) : ∀ (x1 : Int32) (x2 : Int32) (M : sm_M) (r : Int32), f_X12_isOfKind F x1 x2 M = some r → sm_J (md_X12_isOfKind, 1, sk, .inl (some (.int r)), M) 0 [some (.ref 80), some (.int x1), some (.int x2), none, none, none, none, none] [] M := by
  intro x1 x2  M r h
  unfold f_X12_isOfKind at h
  refine sm_aload_n (q := 1) d_X12_isOfKind_0 rfl rfl ?_
  refine sm_geti (q := 4) d_X12_isOfKind_1 rfl fl_X12_90 (hx sx_80) rfl ?_
  refine sm_iconst (q := 5) d_X12_isOfKind_4 rfl ci_1 ?_
  refine sm_icmp_ne (q := 8) (t := 12) d_X12_isOfKind_5 rfl rfl (fun c1 => ?_) (fun c1 => ?_)
  · replace h := sm_if c1 h
    refine sm_aload_n (q := 13) d_X12_isOfKind_12 rfl rfl ?_
    refine sm_geti (q := 16) d_X12_isOfKind_13 rfl fl_X12_16 (hx sx_80) rfl ?_
    exact j_X12_isOfKind_16 hx F x1 x2 (M.1 80 3) M _ h
  · replace h := sm_it c1 h
    refine sm_iload_n (q := 9) d_X12_isOfKind_8 rfl rfl ?_
    refine sm_goto (t := 16) d_X12_isOfKind_9 rfl ?_
    exact j_X12_isOfKind_16 hx F x1 x2 x2 M _ h
theorem c_X12_isOfKind {sk : List sm_Sh} (hx : sm_ext skM sk) (F : Nat) (x1 : Int32) (x2 : Int32) (M : sm_M) (r : Int32) (h : f_X12_isOfKind F x1 x2 M = some r) : sm_Ct yX12_isOfKind md_X12_isOfKind 1 sk [.ref 80, .int x1, .int x2] M (.inl (some (.int r))) M := sm_enter 5 pn_X12 rfl (Nat.le_of_ble_eq_true rfl) rfl (j_X12_isOfKind hx F x1 x2 M r h)
/-! UniversalCyclesModel.codes(I)I -/
theorem d_X12_codes_0 : decode cX12_codes 0 = .ok (.iconst 1, 1) := by decide +kernel
theorem d_X12_codes_1 : decode cX12_codes 1 = .ok (.istore_n 1, 1) := by decide +kernel
theorem d_X12_codes_2 : decode cX12_codes 2 = .ok (.iconst 0, 1) := by decide +kernel
theorem d_X12_codes_3 : decode cX12_codes 3 = .ok (.istore_n 2, 1) := by decide +kernel
theorem d_X12_codes_4 : decode cX12_codes 4 = .ok (.iload_n 2, 1) := by decide +kernel
theorem d_X12_codes_5 : decode cX12_codes 5 = .ok (.iload_n 0, 1) := by decide +kernel
theorem d_X12_codes_6 : decode cX12_codes 6 = .ok (.if_icmp .ge 14, 3) := by decide +kernel
theorem d_X12_codes_9 : decode cX12_codes 9 = .ok (.iload_n 1, 1) := by decide +kernel
theorem d_X12_codes_10 : decode cX12_codes 10 = .ok (.bipush 8, 2) := by decide +kernel
theorem d_X12_codes_12 : decode cX12_codes 12 = .ok (.imul, 1) := by decide +kernel
theorem d_X12_codes_13 : decode cX12_codes 13 = .ok (.istore_n 1, 1) := by decide +kernel
theorem d_X12_codes_14 : decode cX12_codes 14 = .ok (.iinc 2 1, 3) := by decide +kernel
theorem d_X12_codes_17 : decode cX12_codes 17 = .ok (.goto (-13), 3) := by decide +kernel
theorem d_X12_codes_20 : decode cX12_codes 20 = .ok (.iload_n 1, 1) := by decide +kernel
theorem d_X12_codes_21 : decode cX12_codes 21 = .ok (.ireturn, 1) := by decide +kernel
def f_X12_codes_4b (F : Nat) (kb4 : Int32 → Int32 → Int32 → sm_M → Option (Int32)) (x0 : Int32) (x1 : Int32) (x2 : Int32) (M : sm_M) : Option (Int32) := if x0 ≤ x2 then (some x1) else (kb4 x0 (x1 * (8 : Int32)) (x2 + 1) M)
set_option maxRecDepth 100000 in
set_option maxHeartbeats 4000000 in
theorem j_X12_codes_4b {sk : List sm_Sh} (hx : sm_ext skM sk) (F : Nat) (kb4 : Int32 → Int32 → Int32 → sm_M → Option (Int32)) (hkb4 : ∀ (x0 : Int32) (x1 : Int32) (x2 : Int32) (M : sm_M) (r : Int32), kb4 x0 x1 x2 M = some r → sm_J (md_X12_codes, 0, sk, .inl (some (.int r)), M) 4 [some (.int x0), some (.int x1), some (.int x2)] [] M) : ∀ (x0 : Int32) (x1 : Int32) (x2 : Int32) (M : sm_M) (r : Int32), f_X12_codes_4b F kb4 x0 x1 x2 M = some r → sm_J (md_X12_codes, 0, sk, .inl (some (.int r)), M) 4 [some (.int x0), some (.int x1), some (.int x2)] [] M := by
  intro x0 x1 x2  M r h
  unfold f_X12_codes_4b at h
  refine sm_iload_n (q := 5) d_X12_codes_4 rfl rfl ?_
  refine sm_iload_n (q := 6) d_X12_codes_5 rfl rfl ?_
  refine sm_icmp_ge (q := 9) (t := 20) d_X12_codes_6 rfl rfl (fun c1 => ?_) (fun c1 => ?_)
  · replace h := sm_it c1 h
    refine sm_iload_n (q := 21) d_X12_codes_20 rfl rfl ?_
    obtain rfl := Option.some.inj h
    exact sm_iret d_X12_codes_21 rfl rfl rfl rfl
  · replace h := sm_if c1 h
    refine sm_iload_n (q := 10) d_X12_codes_9 rfl rfl ?_
    refine sm_bipush (q := 12) d_X12_codes_10 rfl cb_8 ?_
    refine sm_imul (q := 13) d_X12_codes_12 rfl ?_
    refine sm_istore_n (q := 14) (lt := [some (.int x0), some (.int (x1 * (8 : Int32))), some (.int x2)]) d_X12_codes_13 rfl (Nat.le_of_ble_eq_true rfl) rfl rfl ?_
    refine sm_iinc (q := 17) (v := (x2 + 1)) (lt := [some (.int x0), some (.int (x1 * (8 : Int32))), some (.int (x2 + 1))]) d_X12_codes_14 rfl rfl (ii_1 _) (Nat.le_of_ble_eq_true rfl) rfl rfl ?_
    refine sm_goto (t := 4) d_X12_codes_17 rfl ?_
    exact hkb4 x0 (x1 * (8 : Int32)) (x2 + 1) M _ h
def f_X12_codes_4 (F : Nat) (n : Nat) : Int32 → Int32 → Int32 → sm_M → Option (Int32) := match n with
 | 0 => fun _ _ _ _ => none
 | n + 1 => f_X12_codes_4b F (f_X12_codes_4 F n)
theorem j_X12_codes_4 {sk : List sm_Sh} (hx : sm_ext skM sk) (F : Nat) : ∀ (n : Nat) (x0 : Int32) (x1 : Int32) (x2 : Int32) (M : sm_M) (r : Int32), f_X12_codes_4 F n x0 x1 x2 M = some r → sm_J (md_X12_codes, 0, sk, .inl (some (.int r)), M) 4 [some (.int x0), some (.int x1), some (.int x2)] [] M := by
  intro n
  induction n with
  | zero => intro x0 x1 x2  M r h; exact nomatch (show (none : Option (Int32)) = some r from h)
  | succ n ih => exact j_X12_codes_4b hx F (f_X12_codes_4 F n) ih
def f_X12_codes (F : Nat) (x0 : Int32) (M : sm_M) : Option (Int32) := f_X12_codes_4 F F x0 (1 : Int32) (0 : Int32) M
set_option maxRecDepth 100000 in
set_option maxHeartbeats 4000000 in
theorem j_X12_codes {sk : List sm_Sh} (hx : sm_ext skM sk) (F : Nat) : ∀ (x0 : Int32) (M : sm_M) (r : Int32), f_X12_codes F x0 M = some r → sm_J (md_X12_codes, 0, sk, .inl (some (.int r)), M) 0 [some (.int x0), none, none] [] M := by
  intro x0  M r h
  unfold f_X12_codes at h
  refine sm_iconst (q := 1) d_X12_codes_0 rfl ci_1 ?_
  refine sm_istore_n (q := 2) (lt := [some (.int x0), some (.int (1 : Int32)), none]) d_X12_codes_1 rfl (Nat.le_of_ble_eq_true rfl) rfl rfl ?_
  refine sm_iconst (q := 3) d_X12_codes_2 rfl ci_0 ?_
  refine sm_istore_n (q := 4) (lt := [some (.int x0), some (.int (1 : Int32)), some (.int (0 : Int32))]) d_X12_codes_3 rfl (Nat.le_of_ble_eq_true rfl) rfl rfl ?_
  exact j_X12_codes_4 hx F F x0 (1 : Int32) (0 : Int32) M _ h
theorem c_X12_codes {sk : List sm_Sh} (hx : sm_ext skM sk) (F : Nat) (x0 : Int32) (M : sm_M) (r : Int32) (h : f_X12_codes F x0 M = some r) : sm_Ct yX12_codes md_X12_codes 0 sk [.int x0] M (.inl (some (.int r))) M := sm_enter 2 pn_X12 rfl (Nat.le_of_ble_eq_true rfl) rfl (j_X12_codes hx F x0 M r h)
/-! UniversalCyclesModel.endOf(II)I -/
theorem d_X12_endOf_0 : decode cX12_endOf 0 = .ok (.iconst 0, 1) := by decide +kernel
theorem d_X12_endOf_1 : decode cX12_endOf 1 = .ok (.istore_n 3, 1) := by decide +kernel
theorem d_X12_endOf_2 : decode cX12_endOf 2 = .ok (.iload_n 2, 1) := by decide +kernel
theorem d_X12_endOf_3 : decode cX12_endOf 3 = .ok (.istore 4, 2) := by decide +kernel
theorem d_X12_endOf_5 : decode cX12_endOf 5 = .ok (.iload 4, 2) := by decide +kernel
theorem d_X12_endOf_7 : decode cX12_endOf 7 = .ok (.iload_n 2, 1) := by decide +kernel
theorem d_X12_endOf_8 : decode cX12_endOf 8 = .ok (.aload_n 0, 1) := by decide +kernel
theorem d_X12_endOf_9 : decode cX12_endOf 9 = .ok (.getfield 13, 3) := by decide +kernel
theorem d_X12_endOf_12 : decode cX12_endOf 12 = .ok (.iadd, 1) := by decide +kernel
theorem d_X12_endOf_13 : decode cX12_endOf 13 = .ok (.iconst 1, 1) := by decide +kernel
theorem d_X12_endOf_14 : decode cX12_endOf 14 = .ok (.isub, 1) := by decide +kernel
theorem d_X12_endOf_15 : decode cX12_endOf 15 = .ok (.if_icmp .ge 94, 3) := by decide +kernel
theorem d_X12_endOf_18 : decode cX12_endOf 18 = .ok (.aload_n 0, 1) := by decide +kernel
theorem d_X12_endOf_19 : decode cX12_endOf 19 = .ok (.getfield 19, 3) := by decide +kernel
theorem d_X12_endOf_22 : decode cX12_endOf 22 = .ok (.iconst 5, 1) := by decide +kernel
theorem d_X12_endOf_23 : decode cX12_endOf 23 = .ok (.iload_n 1, 1) := by decide +kernel
theorem d_X12_endOf_24 : decode cX12_endOf 24 = .ok (.imul, 1) := by decide +kernel
theorem d_X12_endOf_25 : decode cX12_endOf 25 = .ok (.iload 4, 2) := by decide +kernel
theorem d_X12_endOf_27 : decode cX12_endOf 27 = .ok (.iadd, 1) := by decide +kernel
theorem d_X12_endOf_28 : decode cX12_endOf 28 = .ok (.iaload, 1) := by decide +kernel
theorem d_X12_endOf_29 : decode cX12_endOf 29 = .ok (.istore 5, 2) := by decide +kernel
theorem d_X12_endOf_31 : decode cX12_endOf 31 = .ok (.iconst 0, 1) := by decide +kernel
theorem d_X12_endOf_32 : decode cX12_endOf 32 = .ok (.istore 6, 2) := by decide +kernel
theorem d_X12_endOf_34 : decode cX12_endOf 34 = .ok (.iload_n 2, 1) := by decide +kernel
theorem d_X12_endOf_35 : decode cX12_endOf 35 = .ok (.istore 7, 2) := by decide +kernel
theorem d_X12_endOf_37 : decode cX12_endOf 37 = .ok (.iload 7, 2) := by decide +kernel
theorem d_X12_endOf_39 : decode cX12_endOf 39 = .ok (.iload_n 2, 1) := by decide +kernel
theorem d_X12_endOf_40 : decode cX12_endOf 40 = .ok (.aload_n 0, 1) := by decide +kernel
theorem d_X12_endOf_41 : decode cX12_endOf 41 = .ok (.getfield 13, 3) := by decide +kernel
theorem d_X12_endOf_44 : decode cX12_endOf 44 = .ok (.iadd, 1) := by decide +kernel
theorem d_X12_endOf_45 : decode cX12_endOf 45 = .ok (.iconst 1, 1) := by decide +kernel
theorem d_X12_endOf_46 : decode cX12_endOf 46 = .ok (.isub, 1) := by decide +kernel
theorem d_X12_endOf_47 : decode cX12_endOf 47 = .ok (.if_icmp .ge 35, 3) := by decide +kernel
theorem d_X12_endOf_50 : decode cX12_endOf 50 = .ok (.iload 6, 2) := by decide +kernel
theorem d_X12_endOf_52 : decode cX12_endOf 52 = .ok (.aload_n 0, 1) := by decide +kernel
theorem d_X12_endOf_53 : decode cX12_endOf 53 = .ok (.getfield 19, 3) := by decide +kernel
theorem d_X12_endOf_56 : decode cX12_endOf 56 = .ok (.iconst 5, 1) := by decide +kernel
theorem d_X12_endOf_57 : decode cX12_endOf 57 = .ok (.iload_n 1, 1) := by decide +kernel
theorem d_X12_endOf_58 : decode cX12_endOf 58 = .ok (.imul, 1) := by decide +kernel
theorem d_X12_endOf_59 : decode cX12_endOf 59 = .ok (.iload 7, 2) := by decide +kernel
theorem d_X12_endOf_61 : decode cX12_endOf 61 = .ok (.iadd, 1) := by decide +kernel
theorem d_X12_endOf_62 : decode cX12_endOf 62 = .ok (.iaload, 1) := by decide +kernel
theorem d_X12_endOf_63 : decode cX12_endOf 63 = .ok (.iload 5, 2) := by decide +kernel
theorem d_X12_endOf_65 : decode cX12_endOf 65 = .ok (.if_icmp .ge 7, 3) := by decide +kernel
theorem d_X12_endOf_68 : decode cX12_endOf 68 = .ok (.iconst 1, 1) := by decide +kernel
theorem d_X12_endOf_69 : decode cX12_endOf 69 = .ok (.goto 4, 3) := by decide +kernel
theorem d_X12_endOf_72 : decode cX12_endOf 72 = .ok (.iconst 0, 1) := by decide +kernel
theorem d_X12_endOf_73 : decode cX12_endOf 73 = .ok (.iadd, 1) := by decide +kernel
theorem d_X12_endOf_74 : decode cX12_endOf 74 = .ok (.istore 6, 2) := by decide +kernel
theorem d_X12_endOf_76 : decode cX12_endOf 76 = .ok (.iinc 7 1, 3) := by decide +kernel
theorem d_X12_endOf_79 : decode cX12_endOf 79 = .ok (.goto (-42), 3) := by decide +kernel
theorem d_X12_endOf_82 : decode cX12_endOf 82 = .ok (.bipush 8, 2) := by decide +kernel
theorem d_X12_endOf_84 : decode cX12_endOf 84 = .ok (.iload_n 3, 1) := by decide +kernel
theorem d_X12_endOf_85 : decode cX12_endOf 85 = .ok (.imul, 1) := by decide +kernel
theorem d_X12_endOf_86 : decode cX12_endOf 86 = .ok (.aload_n 0, 1) := by decide +kernel
theorem d_X12_endOf_87 : decode cX12_endOf 87 = .ok (.getfield 90, 3) := by decide +kernel
theorem d_X12_endOf_90 : decode cX12_endOf 90 = .ok (.iconst 1, 1) := by decide +kernel
theorem d_X12_endOf_91 : decode cX12_endOf 91 = .ok (.if_icmp .ne 8, 3) := by decide +kernel
theorem d_X12_endOf_94 : decode cX12_endOf 94 = .ok (.iload 6, 2) := by decide +kernel
theorem d_X12_endOf_96 : decode cX12_endOf 96 = .ok (.goto 5, 3) := by decide +kernel
theorem d_X12_endOf_99 : decode cX12_endOf 99 = .ok (.iload 5, 2) := by decide +kernel
theorem d_X12_endOf_101 : decode cX12_endOf 101 = .ok (.iadd, 1) := by decide +kernel
theorem d_X12_endOf_102 : decode cX12_endOf 102 = .ok (.istore_n 3, 1) := by decide +kernel
theorem d_X12_endOf_103 : decode cX12_endOf 103 = .ok (.iinc 4 1, 3) := by decide +kernel
theorem d_X12_endOf_106 : decode cX12_endOf 106 = .ok (.goto (-101), 3) := by decide +kernel
theorem d_X12_endOf_109 : decode cX12_endOf 109 = .ok (.iload_n 3, 1) := by decide +kernel
theorem d_X12_endOf_110 : decode cX12_endOf 110 = .ok (.ireturn, 1) := by decide +kernel
def f_X12_endOf_73 (F : Nat) (kb5 : Int32 → Int32 → Int32 → Int32 → sm_M → Option (Int32)) (kb37 : Int32 → Int32 → Int32 → Int32 → Int32 → Int32 → Int32 → sm_M → Option (Int32)) (x1 : Int32) (x2 : Int32) (x3 : Int32) (x4 : Int32) (x5 : Int32) (x7 : Int32) (y0 : Int32) (y1 : Int32) (M : sm_M) : Option (Int32) := kb37 x1 x2 x3 x4 x5 (y0 + y1) (x7 + 1) M
set_option maxRecDepth 100000 in
set_option maxHeartbeats 4000000 in
theorem j_X12_endOf_73 {sk : List sm_Sh} (hx : sm_ext skM sk) (F : Nat) (kb5 : Int32 → Int32 → Int32 → Int32 → sm_M → Option (Int32)) (kb37 : Int32 → Int32 → Int32 → Int32 → Int32 → Int32 → Int32 → sm_M → Option (Int32)) (hkb5 : ∀ (x1 : Int32) (x2 : Int32) (x3 : Int32) (x4 : Int32) (M : sm_M) (r : Int32), kb5 x1 x2 x3 x4 M = some r → sm_J (md_X12_endOf, 0, sk, .inl (some (.int r)), M) 5 [some (.ref 80), some (.int x1), some (.int x2), some (.int x3), some (.int x4), none, none, none] [] M) (hkb37 : ∀ (x1 : Int32) (x2 : Int32) (x3 : Int32) (x4 : Int32) (x5 : Int32) (x6 : Int32) (x7 : Int32) (M : sm_M) (r : Int32), kb37 x1 x2 x3 x4 x5 x6 x7 M = some r → sm_J (md_X12_endOf, 0, sk, .inl (some (.int r)), M) 37 [some (.ref 80), some (.int x1), some (.int x2), some (.int x3), some (.int x4), some (.int x5), some (.int x6), some (.int x7)] [] M) : ∀ (x1 : Int32) (x2 : Int32) (x3 : Int32) (x4 : Int32) (x5 : Int32) (x7 : Int32) (y0 : Int32) (y1 : Int32) (M : sm_M) (r : Int32), f_X12_endOf_73 F kb5 kb37 x1 x2 x3 x4 x5 x7 y0 y1 M = some r → sm_J (md_X12_endOf, 0, sk, .inl (some (.int r)), M) 73 [some (.ref 80), some (.int x1), some (.int x2), some (.int x3), some (.int x4), some (.int x5), none, some (.int x7)] [.int y1, .int y0] M := by
  intro x1 x2 x3 x4 x5 x7 y0 y1  M r h
  unfold f_X12_endOf_73 at h
  refine sm_iadd (q := 74) d_X12_endOf_73 rfl ?_
  refine sm_istore (q := 76) (lt := [some (.ref 80), some (.int x1), some (.int x2), some (.int x3), some (.int x4), some (.int x5), some (.int (y0 + y1)), some (.int x7)]) d_X12_endOf_74 rfl (Nat.le_of_ble_eq_true rfl) rfl rfl ?_
  refine sm_iinc (q := 79) (v := (x7 + 1)) (lt := [some (.ref 80), some (.int x1), some (.int x2), some (.int x3), some (.int x4), some (.int x5), some (.int (y0 + y1)), some (.int (x7 + 1))]) d_X12_endOf_76 rfl rfl (ii_1 _) (Nat.le_of_ble_eq_true rfl) rfl rfl ?_
  refine sm_goto (t := 37) d_X12_endOf_79 rfl ?_
  exact hkb37 x1 x2 x3 x4 x5 (y0 + y1) (x7 + 1) M _ h
def f_X12_endOf_101 (F : Nat) (kb5 : Int32 → Int32 → Int32 → Int32 → sm_M → Option (Int32)) (x1 : Int32) (x2 : Int32) (x4 : Int32) (y0 : Int32) (y1 : Int32) (M : sm_M) : Option (Int32) := kb5 x1 x2 (y0 + y1) (x4 + 1) M
set_option maxRecDepth 100000 in
set_option maxHeartbeats 4000000 in
theorem j_X12_endOf_101 {sk : List sm_Sh} (hx : sm_ext skM sk) (F : Nat) (kb5 : Int32 → Int32 → Int32 → Int32 → sm_M → Option (Int32)) (hkb5 : ∀ (x1 : Int32) (x2 : Int32) (x3 : Int32) (x4 : Int32) (M : sm_M) (r : Int32), kb5 x1 x2 x3 x4 M = some r → sm_J (md_X12_endOf, 0, sk, .inl (some (.int r)), M) 5 [some (.ref 80), some (.int x1), some (.int x2), some (.int x3), some (.int x4), none, none, none] [] M) : ∀ (x1 : Int32) (x2 : Int32) (x4 : Int32) (y0 : Int32) (y1 : Int32) (M : sm_M) (r : Int32), f_X12_endOf_101 F kb5 x1 x2 x4 y0 y1 M = some r → sm_J (md_X12_endOf, 0, sk, .inl (some (.int r)), M) 101 [some (.ref 80), some (.int x1), some (.int x2), none, some (.int x4), none, none, none] [.int y1, .int y0] M := by
  intro x1 x2 x4 y0 y1  M r h
  unfold f_X12_endOf_101 at h
  refine sm_iadd (q := 102) d_X12_endOf_101 rfl ?_
  refine sm_istore_n (q := 103) (lt := [some (.ref 80), some (.int x1), some (.int x2), some (.int (y0 + y1)), some (.int x4), none, none, none]) d_X12_endOf_102 rfl (Nat.le_of_ble_eq_true rfl) rfl rfl ?_
  refine sm_iinc (q := 106) (v := (x4 + 1)) (lt := [some (.ref 80), some (.int x1), some (.int x2), some (.int (y0 + y1)), some (.int (x4 + 1)), none, none, none]) d_X12_endOf_103 rfl rfl (ii_1 _) (Nat.le_of_ble_eq_true rfl) rfl rfl ?_
  refine sm_goto (t := 5) d_X12_endOf_106 rfl ?_
  exact hkb5 x1 x2 (y0 + y1) (x4 + 1) M _ h
def f_X12_endOf_37b (F : Nat) (kb5 : Int32 → Int32 → Int32 → Int32 → sm_M → Option (Int32)) (kb37 : Int32 → Int32 → Int32 → Int32 → Int32 → Int32 → Int32 → sm_M → Option (Int32)) (x1 : Int32) (x2 : Int32) (x3 : Int32) (x4 : Int32) (x5 : Int32) (x6 : Int32) (x7 : Int32) (M : sm_M) : Option (Int32) := if ((x2 + (M.1 80 2)) - (1 : Int32)) ≤ x7 then (if (M.1 80 1) = (1 : Int32) then (f_X12_endOf_101 F kb5 x1 x2 x4 ((8 : Int32) * x3) x6 M) else (f_X12_endOf_101 F kb5 x1 x2 x4 ((8 : Int32) * x3) x5 M)) else (sm_g (sm_ib (((5 : Int32) * x1) + x7) 1000) (if x5 ≤ (M.1 81 (((5 : Int32) * x1) + x7).toNatClampNeg) then (f_X12_endOf_73 F kb5 kb37 x1 x2 x3 x4 x5 x7 x6 (0 : Int32) M) else (f_X12_endOf_73 F kb5 kb37 x1 x2 x3 x4 x5 x7 x6 (1 : Int32) M)))
set_option maxRecDepth 100000 in
set_option maxHeartbeats 4000000 in
theorem j_X12_endOf_37b {sk : List sm_Sh} (hx : sm_ext skM sk) (F : Nat) (kb5 : Int32 → Int32 → Int32 → Int32 → sm_M → Option (Int32)) (kb37 : Int32 → Int32 → Int32 → Int32 → Int32 → Int32 → Int32 → sm_M → Option (Int32)) (hkb5 : ∀ (x1 : Int32) (x2 : Int32) (x3 : Int32) (x4 : Int32) (M : sm_M) (r : Int32), kb5 x1 x2 x3 x4 M = some r → sm_J (md_X12_endOf, 0, sk, .inl (some (.int r)), M) 5 [some (.ref 80), some (.int x1), some (.int x2), some (.int x3), some (.int x4), none, none, none] [] M) (hkb37 : ∀ (x1 : Int32) (x2 : Int32) (x3 : Int32) (x4 : Int32) (x5 : Int32) (x6 : Int32) (x7 : Int32) (M : sm_M) (r : Int32), kb37 x1 x2 x3 x4 x5 x6 x7 M = some r → sm_J (md_X12_endOf, 0, sk, .inl (some (.int r)), M) 37 [some (.ref 80), some (.int x1), some (.int x2), some (.int x3), some (.int x4), some (.int x5), some (.int x6), some (.int x7)] [] M) : ∀ (x1 : Int32) (x2 : Int32) (x3 : Int32) (x4 : Int32) (x5 : Int32) (x6 : Int32) (x7 : Int32) (M : sm_M) (r : Int32), f_X12_endOf_37b F kb5 kb37 x1 x2 x3 x4 x5 x6 x7 M = some r → sm_J (md_X12_endOf, 0, sk, .inl (some (.int r)), M) 37 [some (.ref 80), some (.int x1), some (.int x2), some (.int x3), some (.int x4), some (.int x5), some (.int x6), some (.int x7)] [] M := by
  intro x1 x2 x3 x4 x5 x6 x7  M r h
  unfold f_X12_endOf_37b at h
  refine sm_iload (q := 39) d_X12_endOf_37 rfl rfl ?_
  refine sm_iload_n (q := 40) d_X12_endOf_39 rfl rfl ?_
  refine sm_aload_n (q := 41) d_X12_endOf_40 rfl rfl ?_
  refine sm_geti (q := 44) d_X12_endOf_41 rfl fl_X12_13 (hx sx_80) rfl ?_
  refine sm_iadd (q := 45) d_X12_endOf_44 rfl ?_
  refine sm_iconst (q := 46) d_X12_endOf_45 rfl ci_1 ?_
  refine sm_isub (q := 47) d_X12_endOf_46 rfl ?_
  refine sm_icmp_ge (q := 50) (t := 82) d_X12_endOf_47 rfl rfl (fun c1 => ?_) (fun c1 => ?_)
  · replace h := sm_it c1 h
    refine sm_bipush (q := 84) d_X12_endOf_82 rfl cb_8 ?_
    refine sm_iload_n (q := 85) d_X12_endOf_84 rfl rfl ?_
    refine sm_imul (q := 86) d_X12_endOf_85 rfl ?_
    refine sm_aload_n (q := 87) d_X12_endOf_86 rfl rfl ?_
    refine sm_geti (q := 90) d_X12_endOf_87 rfl fl_X12_90 (hx sx_80) rfl ?_
    refine sm_iconst (q := 91) d_X12_endOf_90 rfl ci_1 ?_
    refine sm_icmp_ne (q := 94) (t := 99) d_X12_endOf_91 rfl rfl (fun c2 => ?_) (fun c2 => ?_)
    · replace h := sm_if c2 h
      refine sm_iload (q := 101) d_X12_endOf_99 rfl rfl ?_
      refine sm_fg [3, 5, 6, 7] ?_
      exact j_X12_endOf_101 hx F kb5 hkb5 x1 x2 x4 ((8 : Int32) * x3) x5 M _ h
    · replace h := sm_it c2 h
      refine sm_iload (q := 96) d_X12_endOf_94 rfl rfl ?_
      refine sm_goto (t := 101) d_X12_endOf_96 rfl ?_
      refine sm_fg [3, 5, 6, 7] ?_
      exact j_X12_endOf_101 hx F kb5 hkb5 x1 x2 x4 ((8 : Int32) * x3) x6 M _ h
  · replace h := sm_if c1 h
    refine sm_iload (q := 52) d_X12_endOf_50 rfl rfl ?_
    refine sm_aload_n (q := 53) d_X12_endOf_52 rfl rfl ?_
    refine sm_getr (q := 56) d_X12_endOf_53 rfl fl_X12_19 (hx sx_80) rfl ?_
    refine sm_iconst (q := 57) d_X12_endOf_56 rfl ci_5 ?_
    refine sm_iload_n (q := 58) d_X12_endOf_57 rfl rfl ?_
    refine sm_imul (q := 59) d_X12_endOf_58 rfl ?_
    refine sm_iload (q := 61) d_X12_endOf_59 rfl rfl ?_
    refine sm_iadd (q := 62) d_X12_endOf_61 rfl ?_
    obtain ⟨g3, h⟩ := sm_gt h
    refine sm_iaload (q := 63) d_X12_endOf_62 rfl (hx sx_81) (sm_ib_of g3) ?_
    refine sm_iload (q := 65) d_X12_endOf_63 rfl rfl ?_
    refine sm_icmp_ge (q := 68) (t := 72) d_X12_endOf_65 rfl rfl (fun c4 => ?_) (fun c4 => ?_)
    · replace h := sm_it c4 h
      refine sm_iconst (q := 73) d_X12_endOf_72 rfl ci_0 ?_
      refine sm_fg [6] ?_
      exact j_X12_endOf_73 hx F kb5 kb37 hkb5 hkb37 x1 x2 x3 x4 x5 x7 x6 (0 : Int32) M _ h
    · replace h := sm_if c4 h
      refine sm_iconst (q := 69) d_X12_endOf_68 rfl ci_1 ?_
      refine sm_goto (t := 73) d_X12_endOf_69 rfl ?_
      refine sm_fg [6] ?_
      exact j_X12_endOf_73 hx F kb5 kb37 hkb5 hkb37 x1 x2 x3 x4 x5 x7 x6 (1 : Int32) M _ h
def f_X12_endOf_37 (F : Nat) (kb5 : Int32 → Int32 → Int32 → Int32 → sm_M → Option (Int32)) (n : Nat) : Int32 → Int32 → Int32 → Int32 → Int32 → Int32 → Int32 → sm_M → Option (Int32) := match n with
 | 0 => fun _ _ _ _ _ _ _ _ => none
 | n + 1 => f_X12_endOf_37b F kb5 (f_X12_endOf_37 F kb5 n)
theorem j_X12_endOf_37 {sk : List sm_Sh} (hx : sm_ext skM sk) (F : Nat) (kb5 : Int32 → Int32 → Int32 → Int32 → sm_M → Option (Int32)) (hkb5 : ∀ (x1 : Int32) (x2 : Int32) (x3 : Int32) (x4 : Int32) (M : sm_M) (r : Int32), kb5 x1 x2 x3 x4 M = some r → sm_J (md_X12_endOf, 0, sk, .inl (some (.int r)), M) 5 [some (.ref 80), some (.int x1), some (.int x2), some (.int x3), some (.int x4), none, none, none] [] M) : ∀ (n : Nat) (x1 : Int32) (x2 : Int32) (x3 : Int32) (x4 : Int32) (x5 : Int32) (x6 : Int32) (x7 : Int32) (M : sm_M) (r : Int32), f_X12_endOf_37 F kb5 n x1 x2 x3 x4 x5 x6 x7 M = some r → sm_J (md_X12_endOf, 0, sk, .inl (some (.int r)), M) 37 [some (.ref 80), some (.int x1), some (.int x2), some (.int x3), some (.int x4), some (.int x5), some (.int x6), some (.int x7)] [] M := by
  intro n
  induction n with
  | zero => intro x1 x2 x3 x4 x5 x6 x7  M r h; exact nomatch (show (none : Option (Int32)) = some r from h)
  | succ n ih => exact j_X12_endOf_37b hx F kb5 (f_X12_endOf_37 F kb5 n) hkb5 ih
def f_X12_endOf_5b (F : Nat) (kb5 : Int32 → Int32 → Int32 → Int32 → sm_M → Option (Int32)) (x1 : Int32) (x2 : Int32) (x3 : Int32) (x4 : Int32) (M : sm_M) : Option (Int32) := if ((x2 + (M.1 80 2)) - (1 : Int32)) ≤ x4 then (some x3) else (sm_g (sm_ib (((5 : Int32) * x1) + x4) 1000) (f_X12_endOf_37 F kb5 F x1 x2 x3 x4 (M.1 81 (((5 : Int32) * x1) + x4).toNatClampNeg) (0 : Int32) x2 M))
set_option maxRecDepth 100000 in
set_option maxHeartbeats 4000000 in
theorem j_X12_endOf_5b {sk : List sm_Sh} (hx : sm_ext skM sk) (F : Nat) (kb5 : Int32 → Int32 → Int32 → Int32 → sm_M → Option (Int32)) (hkb5 : ∀ (x1 : Int32) (x2 : Int32) (x3 : Int32) (x4 : Int32) (M : sm_M) (r : Int32), kb5 x1 x2 x3 x4 M = some r → sm_J (md_X12_endOf, 0, sk, .inl (some (.int r)), M) 5 [some (.ref 80), some (.int x1), some (.int x2), some (.int x3), some (.int x4), none, none, none] [] M) : ∀ (x1 : Int32) (x2 : Int32) (x3 : Int32) (x4 : Int32) (M : sm_M) (r : Int32), f_X12_endOf_5b F kb5 x1 x2 x3 x4 M = some r → sm_J (md_X12_endOf, 0, sk, .inl (some (.int r)), M) 5 [some (.ref 80), some (.int x1), some (.int x2), some (.int x3), some (.int x4), none, none, none] [] M := by
  intro x1 x2 x3 x4  M r h
  unfold f_X12_endOf_5b at h
  refine sm_iload (q := 7) d_X12_endOf_5 rfl rfl ?_
  refine sm_iload_n (q := 8) d_X12_endOf_7 rfl rfl ?_
  refine sm_aload_n (q := 9) d_X12_endOf_8 rfl rfl ?_
  refine sm_geti (q := 12) d_X12_endOf_9 rfl fl_X12_13 (hx sx_80) rfl ?_
  refine sm_iadd (q := 13) d_X12_endOf_12 rfl ?_
  refine sm_iconst (q := 14) d_X12_endOf_13 rfl ci_1 ?_
  refine sm_isub (q := 15) d_X12_endOf_14 rfl ?_
  refine sm_icmp_ge (q := 18) (t := 109) d_X12_endOf_15 rfl rfl (fun c1 => ?_) (fun c1 => ?_)
  · replace h := sm_it c1 h
    refine sm_iload_n (q := 110) d_X12_endOf_109 rfl rfl ?_
    obtain rfl := Option.some.inj h
    exact sm_iret d_X12_endOf_110 rfl rfl rfl rfl
  · replace h := sm_if c1 h
    refine sm_aload_n (q := 19) d_X12_endOf_18 rfl rfl ?_
    refine sm_getr (q := 22) d_X12_endOf_19 rfl fl_X12_19 (hx sx_80) rfl ?_
    refine sm_iconst (q := 23) d_X12_endOf_22 rfl ci_5 ?_
    refine sm_iload_n (q := 24) d_X12_endOf_23 rfl rfl ?_
    refine sm_imul (q := 25) d_X12_endOf_24 rfl ?_
    refine sm_iload (q := 27) d_X12_endOf_25 rfl rfl ?_
    refine sm_iadd (q := 28) d_X12_endOf_27 rfl ?_
    obtain ⟨g2, h⟩ := sm_gt h
    refine sm_iaload (q := 29) d_X12_endOf_28 rfl (hx sx_81) (sm_ib_of g2) ?_
    refine sm_istore (q := 31) (lt := [some (.ref 80), some (.int x1), some (.int x2), some (.int x3), some (.int x4), some (.int (M.1 81 (((5 : Int32) * x1) + x4).toNatClampNeg)), none, none]) d_X12_endOf_29 rfl (Nat.le_of_ble_eq_true rfl) rfl rfl ?_
    refine sm_iconst (q := 32) d_X12_endOf_31 rfl ci_0 ?_
    refine sm_istore (q := 34) (lt := [some (.ref 80), some (.int x1), some (.int x2), some (.int x3), some (.int x4), some (.int (M.1 81 (((5 : Int32) * x1) + x4).toNatClampNeg)), some (.int (0 : Int32)), none]) d_X12_endOf_32 rfl (Nat.le_of_ble_eq_true rfl) rfl rfl ?_
    refine sm_iload_n (q := 35) d_X12_endOf_34 rfl rfl ?_
    refine sm_istore (q := 37) (lt := [some (.ref 80), some (.int x1), some (.int x2), some (.int x3), some (.int x4), some (.int (M.1 81 (((5 : Int32) * x1) + x4).toNatClampNeg)), some (.int (0 : Int32)), some (.int x2)]) d_X12_endOf_35 rfl (Nat.le_of_ble_eq_true rfl) rfl rfl ?_
    exact j_X12_endOf_37 hx F kb5 hkb5 F x1 x2 x3 x4 (M.1 81 (((5 : Int32) * x1) + x4).toNatClampNeg) (0 : Int32) x2 M _ h
def f_X12_endOf_5 (F : Nat) (n : Nat) : Int32 → Int32 → Int32 → Int32 → sm_M → Option (Int32) := match n with
 | 0 => fun _ _ _ _ _ => none
 | n + 1 => f_X12_endOf_5b F (f_X12_endOf_5 F n)
theorem j_X12_endOf_5 {sk : List sm_Sh} (hx : sm_ext skM sk) (F : Nat) : ∀ (n : Nat) (x1 : Int32) (x2 : Int32) (x3 : Int32) (x4 : Int32) (M : sm_M) (r : Int32), f_X12_endOf_5 F n x1 x2 x3 x4 M = some r → sm_J (md_X12_endOf, 0, sk, .inl (some (.int r)), M) 5 [some (.ref 80), some (.int x1), some (.int x2), some (.int x3), some (.int x4), none, none, none] [] M := by
  intro n
  induction n with
  | zero => intro x1 x2 x3 x4  M r h; exact nomatch (show (none : Option (Int32)) = some r from h)
  | succ n ih => exact j_X12_endOf_5b hx F (f_X12_endOf_5 F n) ih
def f_X12_endOf (F : Nat) (x1 : Int32) (x2 : Int32) (M : sm_M) : Option (Int32) := f_X12_endOf_5 F F x1 x2 (0 : Int32) x2 M
set_option maxRecDepth 100000 in
set_option maxHeartbeats 4000000 in
theorem j_X12_endOf {sk : List sm_Sh} (hx : sm_ext skM sk) (F : Nat) : ∀ (x1 : Int32) (x2 : Int32) (M : sm_M) (r : Int32), f_X12_endOf F x1 x2 M = some r → sm_J (md_X12_endOf, 0, sk, .inl (some (.int r)), M) 0 [some (.ref 80), some (.int x1), some (.int x2), none, none, none, none, none] [] M := by
  intro x1 x2  M r h
  unfold f_X12_endOf at h
  refine sm_iconst (q := 1) d_X12_endOf_0 rfl ci_0 ?_
  refine sm_istore_n (q := 2) (lt := [some (.ref 80), some (.int x1), some (.int x2), some (.int (0 : Int32)), none, none, none, none]) d_X12_endOf_1 rfl (Nat.le_of_ble_eq_true rfl) rfl rfl ?_
  refine sm_iload_n (q := 3) d_X12_endOf_2 rfl rfl ?_
  refine sm_istore (q := 5) (lt := [some (.ref 80), some (.int x1), some (.int x2), some (.int (0 : Int32)), some (.int x2), none, none, none]) d_X12_endOf_3 rfl (Nat.le_of_ble_eq_true rfl) rfl rfl ?_
  exact j_X12_endOf_5 hx F F x1 x2 (0 : Int32) x2 M _ h
theorem c_X12_endOf {sk : List sm_Sh} (hx : sm_ext skM sk) (F : Nat) (x1 : Int32) (x2 : Int32) (M : sm_M) (r : Int32) (h : f_X12_endOf F x1 x2 M = some r) : sm_Ct yX12_endOf md_X12_endOf 0 sk [.ref 80, .int x1, .int x2] M (.inl (some (.int r))) M := sm_enter 5 pn_X12 rfl (Nat.le_of_ble_eq_true rfl) rfl (j_X12_endOf hx F x1 x2 M r h)
/-! UniversalCyclesModel.fill()V -/
theorem d_X12_fill_0 : decode cX12_fill 0 = .ok (.aload_n 0, 1) := by decide +kernel
theorem d_X12_fill_1 : decode cX12_fill 1 = .ok (.iconst 0, 1) := by decide +kernel
theorem d_X12_fill_2 : decode cX12_fill 2 = .ok (.putfield 97, 3) := by decide +kernel
theorem d_X12_fill_5 : decode cX12_fill 5 = .ok (.aload_n 0, 1) := by decide +kernel
theorem d_X12_fill_6 : decode cX12_fill 6 = .ok (.iconst 0, 1) := by decide +kernel
theorem d_X12_fill_7 : decode cX12_fill 7 = .ok (.putfield 100, 3) := by decide +kernel
theorem d_X12_fill_10 : decode cX12_fill 10 = .ok (.iconst 0, 1) := by decide +kernel
theorem d_X12_fill_11 : decode cX12_fill 11 = .ok (.istore_n 1, 1) := by decide +kernel
theorem d_X12_fill_12 : decode cX12_fill 12 = .ok (.iload_n 1, 1) := by decide +kernel
theorem d_X12_fill_13 : decode cX12_fill 13 = .ok (.aload_n 0, 1) := by decide +kernel
theorem d_X12_fill_14 : decode cX12_fill 14 = .ok (.getfield 13, 3) := by decide +kernel
theorem d_X12_fill_17 : decode cX12_fill 17 = .ok (.invokestatic 103, 3) := by decide +kernel
theorem d_X12_fill_20 : decode cX12_fill 20 = .ok (.if_icmp .ge 86, 3) := by decide +kernel
theorem d_X12_fill_23 : decode cX12_fill 23 = .ok (.aload_n 0, 1) := by decide +kernel
theorem d_X12_fill_24 : decode cX12_fill 24 = .ok (.getfield 24, 3) := by decide +kernel
theorem d_X12_fill_27 : decode cX12_fill 27 = .ok (.iload_n 1, 1) := by decide +kernel
theorem d_X12_fill_28 : decode cX12_fill 28 = .ok (.iconst (-1), 1) := by decide +kernel
theorem d_X12_fill_29 : decode cX12_fill 29 = .ok (.iastore, 1) := by decide +kernel
theorem d_X12_fill_30 : decode cX12_fill 30 = .ok (.aload_n 0, 1) := by decide +kernel
theorem d_X12_fill_31 : decode cX12_fill 31 = .ok (.iload_n 1, 1) := by decide +kernel
theorem d_X12_fill_32 : decode cX12_fill 32 = .ok (.aload_n 0, 1) := by decide +kernel
theorem d_X12_fill_33 : decode cX12_fill 33 = .ok (.getfield 13, 3) := by decide +kernel
theorem d_X12_fill_36 : decode cX12_fill 36 = .ok (.invokevirtual 107, 3) := by decide +kernel
theorem d_X12_fill_39 : decode cX12_fill 39 = .ok (.ifCond .eq 61, 3) := by decide +kernel
theorem d_X12_fill_42 : decode cX12_fill 42 = .ok (.iconst 0, 1) := by decide +kernel
theorem d_X12_fill_43 : decode cX12_fill 43 = .ok (.istore_n 2, 1) := by decide +kernel
theorem d_X12_fill_44 : decode cX12_fill 44 = .ok (.iload_n 2, 1) := by decide +kernel
theorem d_X12_fill_45 : decode cX12_fill 45 = .ok (.aload_n 0, 1) := by decide +kernel
theorem d_X12_fill_46 : decode cX12_fill 46 = .ok (.getfield 13, 3) := by decide +kernel
theorem d_X12_fill_49 : decode cX12_fill 49 = .ok (.if_icmp .ge 31, 3) := by decide +kernel
theorem d_X12_fill_52 : decode cX12_fill 52 = .ok (.aload_n 0, 1) := by decide +kernel
theorem d_X12_fill_53 : decode cX12_fill 53 = .ok (.getfield 19, 3) := by decide +kernel
theorem d_X12_fill_56 : decode cX12_fill 56 = .ok (.iconst 5, 1) := by decide +kernel
theorem d_X12_fill_57 : decode cX12_fill 57 = .ok (.aload_n 0, 1) := by decide +kernel
theorem d_X12_fill_58 : decode cX12_fill 58 = .ok (.getfield 97, 3) := by decide +kernel
theorem d_X12_fill_61 : decode cX12_fill 61 = .ok (.imul, 1) := by decide +kernel
theorem d_X12_fill_62 : decode cX12_fill 62 = .ok (.iload_n 2, 1) := by decide +kernel
theorem d_X12_fill_63 : decode cX12_fill 63 = .ok (.iadd, 1) := by decide +kernel
theorem d_X12_fill_64 : decode cX12_fill 64 = .ok (.iload_n 1, 1) := by decide +kernel
theorem d_X12_fill_65 : decode cX12_fill 65 = .ok (.aload_n 0, 1) := by decide +kernel
theorem d_X12_fill_66 : decode cX12_fill 66 = .ok (.getfield 13, 3) := by decide +kernel
theorem d_X12_fill_69 : decode cX12_fill 69 = .ok (.iload_n 2, 1) := by decide +kernel
theorem d_X12_fill_70 : decode cX12_fill 70 = .ok (.invokestatic 93, 3) := by decide +kernel
theorem d_X12_fill_73 : decode cX12_fill 73 = .ok (.iastore, 1) := by decide +kernel
theorem d_X12_fill_74 : decode cX12_fill 74 = .ok (.iinc 2 1, 3) := by decide +kernel
theorem d_X12_fill_77 : decode cX12_fill 77 = .ok (.goto (-33), 3) := by decide +kernel
theorem d_X12_fill_80 : decode cX12_fill 80 = .ok (.aload_n 0, 1) := by decide +kernel
theorem d_X12_fill_81 : decode cX12_fill 81 = .ok (.getfield 24, 3) := by decide +kernel
theorem d_X12_fill_84 : decode cX12_fill 84 = .ok (.iload_n 1, 1) := by decide +kernel
theorem d_X12_fill_85 : decode cX12_fill 85 = .ok (.aload_n 0, 1) := by decide +kernel
theorem d_X12_fill_86 : decode cX12_fill 86 = .ok (.getfield 97, 3) := by decide +kernel
theorem d_X12_fill_89 : decode cX12_fill 89 = .ok (.iastore, 1) := by decide +kernel
theorem d_X12_fill_90 : decode cX12_fill 90 = .ok (.aload_n 0, 1) := by decide +kernel
theorem d_X12_fill_91 : decode cX12_fill 91 = .ok (.dup, 1) := by decide +kernel
theorem d_X12_fill_92 : decode cX12_fill 92 = .ok (.getfield 97, 3) := by decide +kernel
theorem d_X12_fill_95 : decode cX12_fill 95 = .ok (.iconst 1, 1) := by decide +kernel
theorem d_X12_fill_96 : decode cX12_fill 96 = .ok (.iadd, 1) := by decide +kernel
theorem d_X12_fill_97 : decode cX12_fill 97 = .ok (.putfield 97, 3) := by decide +kernel
theorem d_X12_fill_100 : decode cX12_fill 100 = .ok (.iinc 1 1, 3) := by decide +kernel
theorem d_X12_fill_103 : decode cX12_fill 103 = .ok (.goto (-91), 3) := by decide +kernel
theorem d_X12_fill_106 : decode cX12_fill 106 = .ok (.aload_n 0, 1) := by decide +kernel
theorem d_X12_fill_107 : decode cX12_fill 107 = .ok (.getfield 90, 3) := by decide +kernel
theorem d_X12_fill_110 : decode cX12_fill 110 = .ok (.iconst 3, 1) := by decide +kernel
theorem d_X12_fill_111 : decode cX12_fill 111 = .ok (.if_icmp .ne 4, 3) := by decide +kernel
theorem d_X12_fill_114 : decode cX12_fill 114 = .ok (.return_, 1) := by decide +kernel
theorem d_X12_fill_115 : decode cX12_fill 115 = .ok (.iconst 0, 1) := by decide +kernel
theorem d_X12_fill_116 : decode cX12_fill 116 = .ok (.istore_n 1, 1) := by decide +kernel
theorem d_X12_fill_117 : decode cX12_fill 117 = .ok (.iload_n 1, 1) := by decide +kernel
theorem d_X12_fill_118 : decode cX12_fill 118 = .ok (.aload_n 0, 1) := by decide +kernel
theorem d_X12_fill_119 : decode cX12_fill 119 = .ok (.getfield 13, 3) := by decide +kernel
theorem d_X12_fill_122 : decode cX12_fill 122 = .ok (.iconst 1, 1) := by decide +kernel
theorem d_X12_fill_123 : decode cX12_fill 123 = .ok (.isub, 1) := by decide +kernel
theorem d_X12_fill_124 : decode cX12_fill 124 = .ok (.invokestatic 103, 3) := by decide +kernel
theorem d_X12_fill_127 : decode cX12_fill 127 = .ok (.if_icmp .ge 50, 3) := by decide +kernel
theorem d_X12_fill_130 : decode cX12_fill 130 = .ok (.aload_n 0, 1) := by decide +kernel
theorem d_X12_fill_131 : decode cX12_fill 131 = .ok (.getfield 27, 3) := by decide +kernel
theorem d_X12_fill_134 : decode cX12_fill 134 = .ok (.iload_n 1, 1) := by decide +kernel
theorem d_X12_fill_135 : decode cX12_fill 135 = .ok (.iconst (-1), 1) := by decide +kernel
theorem d_X12_fill_136 : decode cX12_fill 136 = .ok (.iastore, 1) := by decide +kernel
theorem d_X12_fill_137 : decode cX12_fill 137 = .ok (.aload_n 0, 1) := by decide +kernel
theorem d_X12_fill_138 : decode cX12_fill 138 = .ok (.iload_n 1, 1) := by decide +kernel
theorem d_X12_fill_139 : decode cX12_fill 139 = .ok (.aload_n 0, 1) := by decide +kernel
theorem d_X12_fill_140 : decode cX12_fill 140 = .ok (.getfield 13, 3) := by decide +kernel
theorem d_X12_fill_143 : decode cX12_fill 143 = .ok (.iconst 1, 1) := by decide +kernel
theorem d_X12_fill_144 : decode cX12_fill 144 = .ok (.isub, 1) := by decide +kernel
theorem d_X12_fill_145 : decode cX12_fill 145 = .ok (.invokevirtual 107, 3) := by decide +kernel
theorem d_X12_fill_148 : decode cX12_fill 148 = .ok (.ifCond .eq 23, 3) := by decide +kernel
theorem d_X12_fill_151 : decode cX12_fill 151 = .ok (.aload_n 0, 1) := by decide +kernel
theorem d_X12_fill_152 : decode cX12_fill 152 = .ok (.getfield 27, 3) := by decide +kernel
theorem d_X12_fill_155 : decode cX12_fill 155 = .ok (.iload_n 1, 1) := by decide +kernel
theorem d_X12_fill_156 : decode cX12_fill 156 = .ok (.aload_n 0, 1) := by decide +kernel
theorem d_X12_fill_157 : decode cX12_fill 157 = .ok (.getfield 100, 3) := by decide +kernel
theorem d_X12_fill_160 : decode cX12_fill 160 = .ok (.iastore, 1) := by decide +kernel
theorem d_X12_fill_161 : decode cX12_fill 161 = .ok (.aload_n 0, 1) := by decide +kernel
theorem d_X12_fill_162 : decode cX12_fill 162 = .ok (.dup, 1) := by decide +kernel
theorem d_X12_fill_163 : decode cX12_fill 163 = .ok (.getfield 100, 3) := by decide +kernel
theorem d_X12_fill_166 : decode cX12_fill 166 = .ok (.iconst 1, 1) := by decide +kernel
theorem d_X12_fill_167 : decode cX12_fill 167 = .ok (.iadd, 1) := by decide +kernel
theorem d_X12_fill_168 : decode cX12_fill 168 = .ok (.putfield 100, 3) := by decide +kernel
theorem d_X12_fill_171 : decode cX12_fill 171 = .ok (.iinc 1 1, 3) := by decide +kernel
theorem d_X12_fill_174 : decode cX12_fill 174 = .ok (.goto (-57), 3) := by decide +kernel
theorem d_X12_fill_177 : decode cX12_fill 177 = .ok (.iconst 0, 1) := by decide +kernel
theorem d_X12_fill_178 : decode cX12_fill 178 = .ok (.istore_n 1, 1) := by decide +kernel
theorem d_X12_fill_179 : decode cX12_fill 179 = .ok (.iload_n 1, 1) := by decide +kernel
theorem d_X12_fill_180 : decode cX12_fill 180 = .ok (.aload_n 0, 1) := by decide +kernel
theorem d_X12_fill_181 : decode cX12_fill 181 = .ok (.getfield 97, 3) := by decide +kernel
theorem d_X12_fill_184 : decode cX12_fill 184 = .ok (.if_icmp .ge 43, 3) := by decide +kernel
theorem d_X12_fill_187 : decode cX12_fill 187 = .ok (.aload_n 0, 1) := by decide +kernel
theorem d_X12_fill_188 : decode cX12_fill 188 = .ok (.getfield 30, 3) := by decide +kernel
theorem d_X12_fill_191 : decode cX12_fill 191 = .ok (.iload_n 1, 1) := by decide +kernel
theorem d_X12_fill_192 : decode cX12_fill 192 = .ok (.aload_n 0, 1) := by decide +kernel
theorem d_X12_fill_193 : decode cX12_fill 193 = .ok (.getfield 27, 3) := by decide +kernel
theorem d_X12_fill_196 : decode cX12_fill 196 = .ok (.aload_n 0, 1) := by decide +kernel
theorem d_X12_fill_197 : decode cX12_fill 197 = .ok (.iload_n 1, 1) := by decide +kernel
theorem d_X12_fill_198 : decode cX12_fill 198 = .ok (.iconst 0, 1) := by decide +kernel
theorem d_X12_fill_199 : decode cX12_fill 199 = .ok (.invokevirtual 111, 3) := by decide +kernel
theorem d_X12_fill_202 : decode cX12_fill 202 = .ok (.iaload, 1) := by decide +kernel
theorem d_X12_fill_203 : decode cX12_fill 203 = .ok (.iastore, 1) := by decide +kernel
theorem d_X12_fill_204 : decode cX12_fill 204 = .ok (.aload_n 0, 1) := by decide +kernel
theorem d_X12_fill_205 : decode cX12_fill 205 = .ok (.getfield 33, 3) := by decide +kernel
theorem d_X12_fill_208 : decode cX12_fill 208 = .ok (.iload_n 1, 1) := by decide +kernel
theorem d_X12_fill_209 : decode cX12_fill 209 = .ok (.aload_n 0, 1) := by decide +kernel
theorem d_X12_fill_210 : decode cX12_fill 210 = .ok (.getfield 27, 3) := by decide +kernel
theorem d_X12_fill_213 : decode cX12_fill 213 = .ok (.aload_n 0, 1) := by decide +kernel
theorem d_X12_fill_214 : decode cX12_fill 214 = .ok (.iload_n 1, 1) := by decide +kernel
theorem d_X12_fill_215 : decode cX12_fill 215 = .ok (.iconst 1, 1) := by decide +kernel
theorem d_X12_fill_216 : decode cX12_fill 216 = .ok (.invokevirtual 111, 3) := by decide +kernel
theorem d_X12_fill_219 : decode cX12_fill 219 = .ok (.iaload, 1) := by decide +kernel
theorem d_X12_fill_220 : decode cX12_fill 220 = .ok (.iastore, 1) := by decide +kernel
theorem d_X12_fill_221 : decode cX12_fill 221 = .ok (.iinc 1 1, 3) := by decide +kernel
theorem d_X12_fill_224 : decode cX12_fill 224 = .ok (.goto (-45), 3) := by decide +kernel
theorem d_X12_fill_227 : decode cX12_fill 227 = .ok (.return_, 1) := by decide +kernel
def f_X12_fill_100 (F : Nat) (kb12 : Int32 → sm_M → Option (sm_M)) (x1 : Int32) (M : sm_M) : Option (sm_M) := kb12 (x1 + 1) M
set_option maxRecDepth 100000 in
set_option maxHeartbeats 4000000 in
theorem j_X12_fill_100 {sk : List sm_Sh} (hx : sm_ext skM sk) (F : Nat) (kb12 : Int32 → sm_M → Option (sm_M)) (hkb12 : ∀ (x1 : Int32) (M : sm_M) (r : sm_M), kb12 x1 M = some r → sm_J (md_X12_fill, 2, sk, .inl none, r) 12 [some (.ref 80), some (.int x1), none] [] M) : ∀ (x1 : Int32) (M : sm_M) (r : sm_M), f_X12_fill_100 F kb12 x1 M = some r → sm_J (md_X12_fill, 2, sk, .inl none, r) 100 [some (.ref 80), some (.int x1), none] [] M := by
  intro x1  M r h
  unfold f_X12_fill_100 at h
  refine sm_iinc (q := 103) (v := (x1 + 1)) (lt := [some (.ref 80), some (.int (x1 + 1)), none]) d_X12_fill_100 rfl rfl (ii_1 _) (Nat.le_of_ble_eq_true rfl) rfl rfl ?_
  refine sm_goto (t := 12) d_X12_fill_103 rfl ?_
  exact hkb12 (x1 + 1) M _ h
def f_X12_fill_44b (F : Nat) (kb12 : Int32 → sm_M → Option (sm_M)) (kb44 : Int32 → Int32 → sm_M → Option (sm_M)) (x1 : Int32) (x2 : Int32) (M : sm_M) : Option (sm_M) := if (M.1 80 2) ≤ x2 then (sm_g (sm_ib x1 32768) (f_X12_fill_100 F kb12 x1 ((sm_mi (sm_mi M 82 x1.toNatClampNeg (M.1 80 5)) 80 5 ((((sm_mi M 82 x1.toNatClampNeg (M.1 80 5))).1 80 5) + (1 : Int32)))))) else ((f_X12_digit F x1 (M.1 80 2) x2 M).bind fun q3 => sm_g (sm_ib (((5 : Int32) * (M.1 80 5)) + x2) 1000) (kb44 x1 (x2 + 1) ((sm_mi M 81 (((5 : Int32) * (M.1 80 5)) + x2).toNatClampNeg q3))))
set_option maxRecDepth 100000 in
set_option maxHeartbeats 4000000 in
theorem j_X12_fill_44b {sk : List sm_Sh} (hx : sm_ext skM sk) (F : Nat) (kb12 : Int32 → sm_M → Option (sm_M)) (kb44 : Int32 → Int32 → sm_M → Option (sm_M)) (hkb12 : ∀ (x1 : Int32) (M : sm_M) (r : sm_M), kb12 x1 M = some r → sm_J (md_X12_fill, 2, sk, .inl none, r) 12 [some (.ref 80), some (.int x1), none] [] M) (hkb44 : ∀ (x1 : Int32) (x2 : Int32) (M : sm_M) (r : sm_M), kb44 x1 x2 M = some r → sm_J (md_X12_fill, 2, sk, .inl none, r) 44 [some (.ref 80), some (.int x1), some (.int x2)] [] M) : ∀ (x1 : Int32) (x2 : Int32) (M : sm_M) (r : sm_M), f_X12_fill_44b F kb12 kb44 x1 x2 M = some r → sm_J (md_X12_fill, 2, sk, .inl none, r) 44 [some (.ref 80), some (.int x1), some (.int x2)] [] M := by
  intro x1 x2  M r h
  unfold f_X12_fill_44b at h
  refine sm_iload_n (q := 45) d_X12_fill_44 rfl rfl ?_
  refine sm_aload_n (q := 46) d_X12_fill_45 rfl rfl ?_
  refine sm_geti (q := 49) d_X12_fill_46 rfl fl_X12_13 (hx sx_80) rfl ?_
  refine sm_icmp_ge (q := 52) (t := 80) d_X12_fill_49 rfl rfl (fun c1 => ?_) (fun c1 => ?_)
  · replace h := sm_it c1 h
    refine sm_aload_n (q := 81) d_X12_fill_80 rfl rfl ?_
    refine sm_getr (q := 84) d_X12_fill_81 rfl fl_X12_24 (hx sx_80) rfl ?_
    refine sm_iload_n (q := 85) d_X12_fill_84 rfl rfl ?_
    refine sm_aload_n (q := 86) d_X12_fill_85 rfl rfl ?_
    refine sm_geti (q := 89) d_X12_fill_86 rfl fl_X12_97 (hx sx_80) rfl ?_
    obtain ⟨g2, h⟩ := sm_gt h
    refine sm_iastore (q := 90) d_X12_fill_89 rfl (hx sx_82) (sm_ib_of g2) ?_
    refine sm_aload_n (q := 91) d_X12_fill_90 rfl rfl ?_
    refine sm_dup (q := 92) d_X12_fill_91 rfl rfl ?_
    refine sm_geti (q := 95) d_X12_fill_92 rfl fl_X12_97 (hx sx_80) rfl ?_
    refine sm_iconst (q := 96) d_X12_fill_95 rfl ci_1 ?_
    refine sm_iadd (q := 97) d_X12_fill_96 rfl ?_
    refine sm_puti (q := 100) d_X12_fill_97 rfl fw_X12_97 (hx sx_80) rfl rfl rfl ?_
    refine sm_fg [2] ?_
    exact j_X12_fill_100 hx F kb12 hkb12 x1 ((sm_mi (sm_mi M 82 x1.toNatClampNeg (M.1 80 5)) 80 5 ((((sm_mi M 82 x1.toNatClampNeg (M.1 80 5))).1 80 5) + (1 : Int32)))) _ h
  · replace h := sm_if c1 h
    refine sm_aload_n (q := 53) d_X12_fill_52 rfl rfl ?_
    refine sm_getr (q := 56) d_X12_fill_53 rfl fl_X12_19 (hx sx_80) rfl ?_
    refine sm_iconst (q := 57) d_X12_fill_56 rfl ci_5 ?_
    refine sm_aload_n (q := 58) d_X12_fill_57 rfl rfl ?_
    refine sm_geti (q := 61) d_X12_fill_58 rfl fl_X12_97 (hx sx_80) rfl ?_
    refine sm_imul (q := 62) d_X12_fill_61 rfl ?_
    refine sm_iload_n (q := 63) d_X12_fill_62 rfl rfl ?_
    refine sm_iadd (q := 64) d_X12_fill_63 rfl ?_
    refine sm_iload_n (q := 65) d_X12_fill_64 rfl rfl ?_
    refine sm_aload_n (q := 66) d_X12_fill_65 rfl rfl ?_
    refine sm_geti (q := 69) d_X12_fill_66 rfl fl_X12_13 (hx sx_80) rfl ?_
    refine sm_iload_n (q := 70) d_X12_fill_69 rfl rfl ?_
    obtain ⟨q3, e3, h⟩ := sm_bd h
    refine sm_callS (q := 73) (d' := 0) [.int (((5 : Int32) * (M.1 80 5)) + x2), .ref 81] [.int x1, .int (M.1 80 2), .int x2] d_X12_fill_70 rfl lk_X12_93 rfl (Nat.le_of_ble_eq_true rfl) (Nat.le_of_ble_eq_true rfl) (c_X12_digit hx F x1 (M.1 80 2) x2 M _ e3) (st9 := [.int q3, .int (((5 : Int32) * (M.1 80 5)) + x2), .ref 81]) rfl ?_
    obtain ⟨g4, h⟩ := sm_gt h
    refine sm_iastore (q := 74) d_X12_fill_73 rfl (hx sx_81) (sm_ib_of g4) ?_
    refine sm_iinc (q := 77) (v := (x2 + 1)) (lt := [some (.ref 80), some (.int x1), some (.int (x2 + 1))]) d_X12_fill_74 rfl rfl (ii_1 _) (Nat.le_of_ble_eq_true rfl) rfl rfl ?_
    refine sm_goto (t := 44) d_X12_fill_77 rfl ?_
    exact hkb44 x1 (x2 + 1) ((sm_mi M 81 (((5 : Int32) * (M.1 80 5)) + x2).toNatClampNeg q3)) _ h
def f_X12_fill_44 (F : Nat) (kb12 : Int32 → sm_M → Option (sm_M)) (n : Nat) : Int32 → Int32 → sm_M → Option (sm_M) := match n with
 | 0 => fun _ _ _ => none
 | n + 1 => f_X12_fill_44b F kb12 (f_X12_fill_44 F kb12 n)
theorem j_X12_fill_44 {sk : List sm_Sh} (hx : sm_ext skM sk) (F : Nat) (kb12 : Int32 → sm_M → Option (sm_M)) (hkb12 : ∀ (x1 : Int32) (M : sm_M) (r : sm_M), kb12 x1 M = some r → sm_J (md_X12_fill, 2, sk, .inl none, r) 12 [some (.ref 80), some (.int x1), none] [] M) : ∀ (n : Nat) (x1 : Int32) (x2 : Int32) (M : sm_M) (r : sm_M), f_X12_fill_44 F kb12 n x1 x2 M = some r → sm_J (md_X12_fill, 2, sk, .inl none, r) 44 [some (.ref 80), some (.int x1), some (.int x2)] [] M := by
  intro n
  induction n with
  | zero => intro x1 x2  M r h; exact nomatch (show (none : Option (sm_M)) = some r from h)
  | succ n ih => exact j_X12_fill_44b hx F kb12 (f_X12_fill_44 F kb12 n) hkb12 ih
def f_X12_fill_171 (F : Nat) (kb117 : Int32 → sm_M → Option (sm_M)) (x1 : Int32) (M : sm_M) : Option (sm_M) := kb117 (x1 + 1) M
set_option maxRecDepth 100000 in
set_option maxHeartbeats 4000000 in
theorem j_X12_fill_171 {sk : List sm_Sh} (hx : sm_ext skM sk) (F : Nat) (kb117 : Int32 → sm_M → Option (sm_M)) (hkb117 : ∀ (x1 : Int32) (M : sm_M) (r : sm_M), kb117 x1 M = some r → sm_J (md_X12_fill, 2, sk, .inl none, r) 117 [some (.ref 80), some (.int x1), none] [] M) : ∀ (x1 : Int32) (M : sm_M) (r : sm_M), f_X12_fill_171 F kb117 x1 M = some r → sm_J (md_X12_fill, 2, sk, .inl none, r) 171 [some (.ref 80), some (.int x1), none] [] M := by
  intro x1  M r h
  unfold f_X12_fill_171 at h
  refine sm_iinc (q := 174) (v := (x1 + 1)) (lt := [some (.ref 80), some (.int (x1 + 1)), none]) d_X12_fill_171 rfl rfl (ii_1 _) (Nat.le_of_ble_eq_true rfl) rfl rfl ?_
  refine sm_goto (t := 117) d_X12_fill_174 rfl ?_
  exact hkb117 (x1 + 1) M _ h
def f_X12_fill_179b (F : Nat) (kb179 : Int32 → sm_M → Option (sm_M)) (x1 : Int32) (M : sm_M) : Option (sm_M) := if (M.1 80 5) ≤ x1 then (some M) else ((f_X12_endOf F x1 (0 : Int32) M).bind fun q2 => sm_g (sm_ib q2 4096) (sm_g (sm_ib x1 200) ((f_X12_endOf F x1 (1 : Int32) (sm_mi M 84 x1.toNatClampNeg (M.1 83 q2.toNatClampNeg))).bind fun q5 => sm_g (sm_ib q5 4096) (sm_g (sm_ib x1 200) (kb179 (x1 + 1) ((sm_mi (sm_mi M 84 x1.toNatClampNeg (M.1 83 q2.toNatClampNeg)) 85 x1.toNatClampNeg ((sm_mi M 84 x1.toNatClampNeg (M.1 83 q2.toNatClampNeg)).1 83 q5.toNatClampNeg))))))))
set_option maxRecDepth 100000 in
set_option maxHeartbeats 4000000 in
theorem j_X12_fill_179b {sk : List sm_Sh} (hx : sm_ext skM sk) (F : Nat) (kb179 : Int32 → sm_M → Option (sm_M)) (hkb179 : ∀ (x1 : Int32) (M : sm_M) (r : sm_M), kb179 x1 M = some r → sm_J (md_X12_fill, 2, sk, .inl none, r) 179 [some (.ref 80), some (.int x1), none] [] M) : ∀ (x1 : Int32) (M : sm_M) (r : sm_M), f_X12_fill_179b F kb179 x1 M = some r → sm_J (md_X12_fill, 2, sk, .inl none, r) 179 [some (.ref 80), some (.int x1), none] [] M := by
  intro x1  M r h
  unfold f_X12_fill_179b at h
  refine sm_iload_n (q := 180) d_X12_fill_179 rfl rfl ?_
  refine sm_aload_n (q := 181) d_X12_fill_180 rfl rfl ?_
  refine sm_geti (q := 184) d_X12_fill_181 rfl fl_X12_97 (hx sx_80) rfl ?_
  refine sm_icmp_ge (q := 187) (t := 227) d_X12_fill_184 rfl rfl (fun c1 => ?_) (fun c1 => ?_)
  · replace h := sm_it c1 h
    obtain rfl := Option.some.inj h
    exact sm_vret d_X12_fill_227 rfl rfl rfl
  · replace h := sm_if c1 h
    refine sm_aload_n (q := 188) d_X12_fill_187 rfl rfl ?_
    refine sm_getr (q := 191) d_X12_fill_188 rfl fl_X12_30 (hx sx_80) rfl ?_
    refine sm_iload_n (q := 192) d_X12_fill_191 rfl rfl ?_
    refine sm_aload_n (q := 193) d_X12_fill_192 rfl rfl ?_
    refine sm_getr (q := 196) d_X12_fill_193 rfl fl_X12_27 (hx sx_80) rfl ?_
    refine sm_aload_n (q := 197) d_X12_fill_196 rfl rfl ?_
    refine sm_iload_n (q := 198) d_X12_fill_197 rfl rfl ?_
    refine sm_iconst (q := 199) d_X12_fill_198 rfl ci_0 ?_
    obtain ⟨q2, e2, h⟩ := sm_bd h
    refine sm_callV (q := 202) (d' := 0) [.ref 83, .int x1, .ref 84] [.int x1, .int (0 : Int32)] d_X12_fill_199 rfl lk_X12_111 (hx sx_80) rfl rfl rfl (Nat.le_of_ble_eq_true rfl) (Nat.le_of_ble_eq_true rfl) (c_X12_endOf hx F x1 (0 : Int32) M _ e2) (st9 := [.int q2, .ref 83, .int x1, .ref 84]) rfl ?_
    obtain ⟨g3, h⟩ := sm_gt h
    refine sm_iaload (q := 203) d_X12_fill_202 rfl (hx sx_83) (sm_ib_of g3) ?_
    obtain ⟨g4, h⟩ := sm_gt h
    refine sm_iastore (q := 204) d_X12_fill_203 rfl (hx sx_84) (sm_ib_of g4) ?_
    refine sm_aload_n (q := 205) d_X12_fill_204 rfl rfl ?_
    refine sm_getr (q := 208) d_X12_fill_205 rfl fl_X12_33 (hx sx_80) rfl ?_
    refine sm_iload_n (q := 209) d_X12_fill_208 rfl rfl ?_
    refine sm_aload_n (q := 210) d_X12_fill_209 rfl rfl ?_
    refine sm_getr (q := 213) d_X12_fill_210 rfl fl_X12_27 (hx sx_80) rfl ?_
    refine sm_aload_n (q := 214) d_X12_fill_213 rfl rfl ?_
    refine sm_iload_n (q := 215) d_X12_fill_214 rfl rfl ?_
    refine sm_iconst (q := 216) d_X12_fill_215 rfl ci_1 ?_
    obtain ⟨q5, e5, h⟩ := sm_bd h
    refine sm_callV (q := 219) (d' := 0) [.ref 83, .int x1, .ref 85] [.int x1, .int (1 : Int32)] d_X12_fill_216 rfl lk_X12_111 (hx sx_80) rfl rfl rfl (Nat.le_of_ble_eq_true rfl) (Nat.le_of_ble_eq_true rfl) (c_X12_endOf hx F x1 (1 : Int32) (sm_mi M 84 x1.toNatClampNeg (M.1 83 q2.toNatClampNeg)) _ e5) (st9 := [.int q5, .ref 83, .int x1, .ref 85]) rfl ?_
    obtain ⟨g6, h⟩ := sm_gt h
    refine sm_iaload (q := 220) d_X12_fill_219 rfl (hx sx_83) (sm_ib_of g6) ?_
    obtain ⟨g7, h⟩ := sm_gt h
    refine sm_iastore (q := 221) d_X12_fill_220 rfl (hx sx_85) (sm_ib_of g7) ?_
    refine sm_iinc (q := 224) (v := (x1 + 1)) (lt := [some (.ref 80), some (.int (x1 + 1)), none]) d_X12_fill_221 rfl rfl (ii_1 _) (Nat.le_of_ble_eq_true rfl) rfl rfl ?_
    refine sm_goto (t := 179) d_X12_fill_224 rfl ?_
    exact hkb179 (x1 + 1) ((sm_mi (sm_mi M 84 x1.toNatClampNeg (M.1 83 q2.toNatClampNeg)) 85 x1.toNatClampNeg ((sm_mi M 84 x1.toNatClampNeg (M.1 83 q2.toNatClampNeg)).1 83 q5.toNatClampNeg))) _ h
def f_X12_fill_179 (F : Nat) (n : Nat) : Int32 → sm_M → Option (sm_M) := match n with
 | 0 => fun _ _ => none
 | n + 1 => f_X12_fill_179b F (f_X12_fill_179 F n)
theorem j_X12_fill_179 {sk : List sm_Sh} (hx : sm_ext skM sk) (F : Nat) : ∀ (n : Nat) (x1 : Int32) (M : sm_M) (r : sm_M), f_X12_fill_179 F n x1 M = some r → sm_J (md_X12_fill, 2, sk, .inl none, r) 179 [some (.ref 80), some (.int x1), none] [] M := by
  intro n
  induction n with
  | zero => intro x1  M r h; exact nomatch (show (none : Option (sm_M)) = some r from h)
  | succ n ih => exact j_X12_fill_179b hx F (f_X12_fill_179 F n) ih
def f_X12_fill_117b (F : Nat) (kb117 : Int32 → sm_M → Option (sm_M)) (x1 : Int32) (M : sm_M) : Option (sm_M) := (f_X12_codes F ((M.1 80 2) - (1 : Int32)) M).bind fun q1 => if q1 ≤ x1 then (f_X12_fill_179 F F (0 : Int32) M) else (sm_g (sm_ib x1 4096) ((f_X12_isOfKind F x1 ((((sm_mi M 83 x1.toNatClampNeg (-1 : Int32))).1 80 2) - (1 : Int32)) (sm_mi M 83 x1.toNatClampNeg (-1 : Int32))).bind fun q4 => if q4 = 0 then (f_X12_fill_171 F kb117 x1 ((sm_mi M 83 x1.toNatClampNeg (-1 : Int32)))) else (sm_g (sm_ib x1 4096) (f_X12_fill_171 F kb117 x1 ((sm_mi (sm_mi (sm_mi M 83 x1.toNatClampNeg (-1 : Int32)) 83 x1.toNatClampNeg (((sm_mi M 83 x1.toNatClampNeg (-1 : Int32))).1 80 7)) 80 7 ((((sm_mi (sm_mi M 83 x1.toNatClampNeg (-1 : Int32)) 83 x1.toNatClampNeg (((sm_mi M 83 x1.toNatClampNeg (-1 : Int32))).1 80 7))).1 80 7) + (1 : Int32))))))))
set_option maxRecDepth 100000 in
set_option maxHeartbeats 4000000 in
theorem j_X12_fill_117b {sk : List sm_Sh} (hx : sm_ext skM sk) (F : Nat) (kb117 : Int32 → sm_M → Option (sm_M)) (hkb117 : ∀ (x1 : Int32) (M : sm_M) (r : sm_M), kb117 x1 M = some r → sm_J (md_X12_fill, 2, sk, .inl none, r) 117 [some (.ref 80), some (.int x1), none] [] M) : ∀ (x1 : Int32) (M : sm_M) (r : sm_M), f_X12_fill_117b F kb117 x1 M = some r → sm_J (md_X12_fill, 2, sk, .inl none, r) 117 [some (.ref 80), some (.int x1), none] [] M := by
  intro x1  M r h
  unfold f_X12_fill_117b at h
  refine sm_iload_n (q := 118) d_X12_fill_117 rfl rfl ?_
  refine sm_aload_n (q := 119) d_X12_fill_118 rfl rfl ?_
  refine sm_geti (q := 122) d_X12_fill_119 rfl fl_X12_13 (hx sx_80) rfl ?_
  refine sm_iconst (q := 123) d_X12_fill_122 rfl ci_1 ?_
  refine sm_isub (q := 124) d_X12_fill_123 rfl ?_
  obtain ⟨q1, e1, h⟩ := sm_bd h
  refine sm_callS (q := 127) (d' := 0) [.int x1] [.int ((M.1 80 2) - (1 : Int32))] d_X12_fill_124 rfl lk_X12_103 rfl (Nat.le_of_ble_eq_true rfl) (Nat.le_of_ble_eq_true rfl) (c_X12_codes hx F ((M.1 80 2) - (1 : Int32)) M _ e1) (st9 := [.int q1, .int x1]) rfl ?_
  refine sm_icmp_ge (q := 130) (t := 177) d_X12_fill_127 rfl rfl (fun c2 => ?_) (fun c2 => ?_)
  · replace h := sm_it c2 h
    refine sm_iconst (q := 178) d_X12_fill_177 rfl ci_0 ?_
    refine sm_istore_n (q := 179) (lt := [some (.ref 80), some (.int (0 : Int32)), none]) d_X12_fill_178 rfl (Nat.le_of_ble_eq_true rfl) rfl rfl ?_
    exact j_X12_fill_179 hx F F (0 : Int32) M _ h
  · replace h := sm_if c2 h
    refine sm_aload_n (q := 131) d_X12_fill_130 rfl rfl ?_
    refine sm_getr (q := 134) d_X12_fill_131 rfl fl_X12_27 (hx sx_80) rfl ?_
    refine sm_iload_n (q := 135) d_X12_fill_134 rfl rfl ?_
    refine sm_iconst (q := 136) d_X12_fill_135 rfl ci_m1 ?_
    obtain ⟨g3, h⟩ := sm_gt h
    refine sm_iastore (q := 137) d_X12_fill_136 rfl (hx sx_83) (sm_ib_of g3) ?_
    refine sm_aload_n (q := 138) d_X12_fill_137 rfl rfl ?_
    refine sm_iload_n (q := 139) d_X12_fill_138 rfl rfl ?_
    refine sm_aload_n (q := 140) d_X12_fill_139 rfl rfl ?_
    refine sm_geti (q := 143) d_X12_fill_140 rfl fl_X12_13 (hx sx_80) rfl ?_
    refine sm_iconst (q := 144) d_X12_fill_143 rfl ci_1 ?_
    refine sm_isub (q := 145) d_X12_fill_144 rfl ?_
    obtain ⟨q4, e4, h⟩ := sm_bd h
    refine sm_callV (q := 148) (d' := 1) [] [.int x1, .int ((((sm_mi M 83 x1.toNatClampNeg (-1 : Int32))).1 80 2) - (1 : Int32))] d_X12_fill_145 rfl lk_X12_107 (hx sx_80) rfl rfl rfl (Nat.le_of_ble_eq_true rfl) (Nat.le_of_ble_eq_true rfl) (c_X12_isOfKind hx F x1 ((((sm_mi M 83 x1.toNatClampNeg (-1 : Int32))).1 80 2) - (1 : Int32)) (sm_mi M 83 x1.toNatClampNeg (-1 : Int32)) _ e4) (st9 := [.int q4]) rfl ?_
    refine sm_if_eq (q := 151) (t := 171) d_X12_fill_148 rfl rfl (fun c5 => ?_) (fun c5 => ?_)
    · replace h := sm_it c5 h
      exact j_X12_fill_171 hx F kb117 hkb117 x1 ((sm_mi M 83 x1.toNatClampNeg (-1 : Int32))) _ h
    · replace h := sm_if c5 h
      refine sm_aload_n (q := 152) d_X12_fill_151 rfl rfl ?_
      refine sm_getr (q := 155) d_X12_fill_152 rfl fl_X12_27 (hx sx_80) rfl ?_
      refine sm_iload_n (q := 156) d_X12_fill_155 rfl rfl ?_
      refine sm_aload_n (q := 157) d_X12_fill_156 rfl rfl ?_
      refine sm_geti (q := 160) d_X12_fill_157 rfl fl_X12_100 (hx sx_80) rfl ?_
      obtain ⟨g6, h⟩ := sm_gt h
      refine sm_iastore (q := 161) d_X12_fill_160 rfl (hx sx_83) (sm_ib_of g6) ?_
      refine sm_aload_n (q := 162) d_X12_fill_161 rfl rfl ?_
      refine sm_dup (q := 163) d_X12_fill_162 rfl rfl ?_
      refine sm_geti (q := 166) d_X12_fill_163 rfl fl_X12_100 (hx sx_80) rfl ?_
      refine sm_iconst (q := 167) d_X12_fill_166 rfl ci_1 ?_
      refine sm_iadd (q := 168) d_X12_fill_167 rfl ?_
      refine sm_puti (q := 171) d_X12_fill_168 rfl fw_X12_100 (hx sx_80) rfl rfl rfl ?_
      exact j_X12_fill_171 hx F kb117 hkb117 x1 ((sm_mi (sm_mi (sm_mi M 83 x1.toNatClampNeg (-1 : Int32)) 83 x1.toNatClampNeg (((sm_mi M 83 x1.toNatClampNeg (-1 : Int32))).1 80 7)) 80 7 ((((sm_mi (sm_mi M 83 x1.toNatClampNeg (-1 : Int32)) 83 x1.toNatClampNeg (((sm_mi M 83 x1.toNatClampNeg (-1 : Int32))).1 80 7))).1 80 7) + (1 : Int32)))) _ h
def f_X12_fill_117 (F : Nat) (n : Nat) : Int32 → sm_M → Option (sm_M) := match n with
 | 0 => fun _ _ => none
 | n + 1 => f_X12_fill_117b F (f_X12_fill_117 F n)
theorem j_X12_fill_117 {sk : List sm_Sh} (hx : sm_ext skM sk) (F : Nat) : ∀ (n : Nat) (x1 : Int32) (M : sm_M) (r : sm_M), f_X12_fill_117 F n x1 M = some r → sm_J (md_X12_fill, 2, sk, .inl none, r) 117 [some (.ref 80), some (.int x1), none] [] M := by
  intro n
  induction n with
  | zero => intro x1  M r h; exact nomatch (show (none : Option (sm_M)) = some r from h)
  | succ n ih => exact j_X12_fill_117b hx F (f_X12_fill_117 F n) ih
def f_X12_fill_12b (F : Nat) (kb12 : Int32 → sm_M → Option (sm_M)) (x1 : Int32) (M : sm_M) : Option (sm_M) := (f_X12_codes F (M.1 80 2) M).bind fun q1 => if q1 ≤ x1 then (if (M.1 80 1) = (3 : Int32) then (some M) else (f_X12_fill_117 F F (0 : Int32) M)) else (sm_g (sm_ib x1 32768) ((f_X12_isOfKind F x1 (((sm_mi M 82 x1.toNatClampNeg (-1 : Int32))).1 80 2) (sm_mi M 82 x1.toNatClampNeg (-1 : Int32))).bind fun q5 => if q5 = 0 then (f_X12_fill_100 F kb12 x1 ((sm_mi M 82 x1.toNatClampNeg (-1 : Int32)))) else (f_X12_fill_44 F kb12 F x1 (0 : Int32) ((sm_mi M 82 x1.toNatClampNeg (-1 : Int32))))))
set_option maxRecDepth 100000 in
set_option maxHeartbeats 4000000 in
theorem j_X12_fill_12b {sk : List sm_Sh} (hx : sm_ext skM sk) (F : Nat) (kb12 : Int32 → sm_M → Option (sm_M)) (hkb12 : ∀ (x1 : Int32) (M : sm_M) (r : sm_M), kb12 x1 M = some r → sm_J (md_X12_fill, 2, sk, .inl none, r) 12 [some (.ref 80), some (.int x1), none] [] M) : ∀ (x1 : Int32) (M : sm_M) (r : sm_M), f_X12_fill_12b F kb12 x1 M = some r → sm_J (md_X12_fill, 2, sk, .inl none, r) 12 [some (.ref 80), some (.int x1), none] [] M := by
  intro x1  M r h
  unfold f_X12_fill_12b at h
  refine sm_iload_n (q := 13) d_X12_fill_12 rfl rfl ?_
  refine sm_aload_n (q := 14) d_X12_fill_13 rfl rfl ?_
  refine sm_geti (q := 17) d_X12_fill_14 rfl fl_X12_13 (hx sx_80) rfl ?_
  obtain ⟨q1, e1, h⟩ := sm_bd h
  refine sm_callS (q := 20) (d' := 0) [.int x1] [.int (M.1 80 2)] d_X12_fill_17 rfl lk_X12_103 rfl (Nat.le_of_ble_eq_true rfl) (Nat.le_of_ble_eq_true rfl) (c_X12_codes hx F (M.1 80 2) M _ e1) (st9 := [.int q1, .int x1]) rfl ?_
  refine sm_icmp_ge (q := 23) (t := 106) d_X12_fill_20 rfl rfl (fun c2 => ?_) (fun c2 => ?_)
  · replace h := sm_it c2 h
    refine sm_aload_n (q := 107) d_X12_fill_106 rfl rfl ?_
    refine sm_geti (q := 110) d_X12_fill_107 rfl fl_X12_90 (hx sx_80) rfl ?_
    refine sm_iconst (q := 111) d_X12_fill_110 rfl ci_3 ?_
    refine sm_icmp_ne (q := 114) (t := 115) d_X12_fill_111 rfl rfl (fun c3 => ?_) (fun c3 => ?_)
    · replace h := sm_if c3 h
      refine sm_iconst (q := 116) d_X12_fill_115 rfl ci_0 ?_
      refine sm_istore_n (q := 117) (lt := [some (.ref 80), some (.int (0 : Int32)), none]) d_X12_fill_116 rfl (Nat.le_of_ble_eq_true rfl) rfl rfl ?_
      exact j_X12_fill_117 hx F F (0 : Int32) M _ h
    · replace h := sm_it c3 h
      obtain rfl := Option.some.inj h
      exact sm_vret d_X12_fill_114 rfl rfl rfl
  · replace h := sm_if c2 h
    refine sm_aload_n (q := 24) d_X12_fill_23 rfl rfl ?_
    refine sm_getr (q := 27) d_X12_fill_24 rfl fl_X12_24 (hx sx_80) rfl ?_
    refine sm_iload_n (q := 28) d_X12_fill_27 rfl rfl ?_
    refine sm_iconst (q := 29) d_X12_fill_28 rfl ci_m1 ?_
    obtain ⟨g4, h⟩ := sm_gt h
    refine sm_iastore (q := 30) d_X12_fill_29 rfl (hx sx_82) (sm_ib_of g4) ?_
    refine sm_aload_n (q := 31) d_X12_fill_30 rfl rfl ?_
    refine sm_iload_n (q := 32) d_X12_fill_31 rfl rfl ?_
    refine sm_aload_n (q := 33) d_X12_fill_32 rfl rfl ?_
    refine sm_geti (q := 36) d_X12_fill_33 rfl fl_X12_13 (hx sx_80) rfl ?_
    obtain ⟨q5, e5, h⟩ := sm_bd h
    refine sm_callV (q := 39) (d' := 1) [] [.int x1, .int (((sm_mi M 82 x1.toNatClampNeg (-1 : Int32))).1 80 2)] d_X12_fill_36 rfl lk_X12_107 (hx sx_80) rfl rfl rfl (Nat.le_of_ble_eq_true rfl) (Nat.le_of_ble_eq_true rfl) (c_X12_isOfKind hx F x1 (((sm_mi M 82 x1.toNatClampNeg (-1 : Int32))).1 80 2) (sm_mi M 82 x1.toNatClampNeg (-1 : Int32)) _ e5) (st9 := [.int q5]) rfl ?_
    refine sm_if_eq (q := 42) (t := 100) d_X12_fill_39 rfl rfl (fun c6 => ?_) (fun c6 => ?_)
    · replace h := sm_it c6 h
      exact j_X12_fill_100 hx F kb12 hkb12 x1 ((sm_mi M 82 x1.toNatClampNeg (-1 : Int32))) _ h
    · replace h := sm_if c6 h
      refine sm_iconst (q := 43) d_X12_fill_42 rfl ci_0 ?_
      refine sm_istore_n (q := 44) (lt := [some (.ref 80), some (.int x1), some (.int (0 : Int32))]) d_X12_fill_43 rfl (Nat.le_of_ble_eq_true rfl) rfl rfl ?_
      exact j_X12_fill_44 hx F kb12 hkb12 F x1 (0 : Int32) ((sm_mi M 82 x1.toNatClampNeg (-1 : Int32))) _ h
def f_X12_fill_12 (F : Nat) (n : Nat) : Int32 → sm_M → Option (sm_M) := match n with
 | 0 => fun _ _ => none
 | n + 1 => f_X12_fill_12b F (f_X12_fill_12 F n)
theorem j_X12_fill_12 {sk : List sm_Sh} (hx : sm_ext skM sk) (F : Nat) : ∀ (n : Nat) (x1 : Int32) (M : sm_M) (r : sm_M), f_X12_fill_12 F n x1 M = some r → sm_J (md_X12_fill, 2, sk, .inl none, r) 12 [some (.ref 80), some (.int x1), none] [] M := by
  intro n
  induction n with
  | zero => intro x1  M r h; exact nomatch (show (none : Option (sm_M)) = some r from h)
  | succ n ih => exact j_X12_fill_12b hx F (f_X12_fill_12 F n) ih
def f_X12_fill (F : Nat) (M : sm_M) : Option (sm_M) := f_X12_fill_12 F F (0 : Int32) ((sm_mi (sm_mi M 80 5 (0 : Int32)) 80 7 (0 : Int32)))
set_option maxRecDepth 100000 in
set_option maxHeartbeats 4000000 in
theorem j_X12_fill {sk : List sm_Sh} (hx : sm_ext skM sk) (F : Nat) : ∀ (M : sm_M) (r : sm_M), f_X12_fill F M = some r → sm_J (md_X12_fill, 2, sk, .inl none, r) 0 [some (.ref 80), none, none] [] M := by
  intro   M r h
  unfold f_X12_fill at h
  refine sm_aload_n (q := 1) d_X12_fill_0 rfl rfl ?_
  refine sm_iconst (q := 2) d_X12_fill_1 rfl ci_0 ?_
  refine sm_puti (q := 5) d_X12_fill_2 rfl fw_X12_97 (hx sx_80) rfl rfl rfl ?_
  refine sm_aload_n (q := 6) d_X12_fill_5 rfl rfl ?_
  refine sm_iconst (q := 7) d_X12_fill_6 rfl ci_0 ?_
  refine sm_puti (q := 10) d_X12_fill_7 rfl fw_X12_100 (hx sx_80) rfl rfl rfl ?_
  refine sm_iconst (q := 11) d_X12_fill_10 rfl ci_0 ?_
  refine sm_istore_n (q := 12) (lt := [some (.ref 80), some (.int (0 : Int32)), none]) d_X12_fill_11 rfl (Nat.le_of_ble_eq_true rfl) rfl rfl ?_
  exact j_X12_fill_12 hx F F (0 : Int32) ((sm_mi (sm_mi M 80 5 (0 : Int32)) 80 7 (0 : Int32))) _ h
theorem c_X12_fill {sk : List sm_Sh} (hx : sm_ext skM sk) (F : Nat) (M : sm_M) (r : sm_M) (h : f_X12_fill F M = some r) : sm_Ct yX12_fill md_X12_fill 2 sk [.ref 80] M (.inl none) r := sm_enter 2 pn_X12 rfl (Nat.le_of_ble_eq_true rfl) rfl (j_X12_fill hx F M r h)
/-! UniversalCyclesModel.setFamily(III)I -/
theorem d_X12_setFamily_0 : decode cX12_setFamily 0 = .ok (.aload_n 0, 1) := by decide +kernel
theorem d_X12_setFamily_1 : decode cX12_setFamily 1 = .ok (.iconst 0, 1) := by decide +kernel
theorem d_X12_setFamily_2 : decode cX12_setFamily 2 = .ok (.putfield 1, 3) := by decide +kernel
theorem d_X12_setFamily_5 : decode cX12_setFamily 5 = .ok (.iload_n 1, 1) := by decide +kernel
theorem d_X12_setFamily_6 : decode cX12_setFamily 6 = .ok (.iconst 0, 1) := by decide +kernel
theorem d_X12_setFamily_7 : decode cX12_setFamily 7 = .ok (.iconst 3, 1) := by decide +kernel
theorem d_X12_setFamily_8 : decode cX12_setFamily 8 = .ok (.invokestatic 115, 3) := by decide +kernel
theorem d_X12_setFamily_11 : decode cX12_setFamily 11 = .ok (.ifCond .eq 35, 3) := by decide +kernel
theorem d_X12_setFamily_14 : decode cX12_setFamily 14 = .ok (.iload_n 2, 1) := by decide +kernel
theorem d_X12_setFamily_15 : decode cX12_setFamily 15 = .ok (.iconst 1, 1) := by decide +kernel
theorem d_X12_setFamily_16 : decode cX12_setFamily 16 = .ok (.iconst 5, 1) := by decide +kernel
theorem d_X12_setFamily_17 : decode cX12_setFamily 17 = .ok (.invokestatic 115, 3) := by decide +kernel
theorem d_X12_setFamily_20 : decode cX12_setFamily 20 = .ok (.ifCond .eq 26, 3) := by decide +kernel
theorem d_X12_setFamily_23 : decode cX12_setFamily 23 = .ok (.iload_n 3, 1) := by decide +kernel
theorem d_X12_setFamily_24 : decode cX12_setFamily 24 = .ok (.iconst 1, 1) := by decide +kernel
theorem d_X12_setFamily_25 : decode cX12_setFamily 25 = .ok (.bipush 8, 2) := by decide +kernel
theorem d_X12_setFamily_27 : decode cX12_setFamily 27 = .ok (.invokestatic 115, 3) := by decide +kernel
theorem d_X12_setFamily_30 : decode cX12_setFamily 30 = .ok (.ifCond .eq 16, 3) := by decide +kernel
theorem d_X12_setFamily_33 : decode cX12_setFamily 33 = .ok (.iload_n 1, 1) := by decide +kernel
theorem d_X12_setFamily_34 : decode cX12_setFamily 34 = .ok (.ifCond .eq 8, 3) := by decide +kernel
theorem d_X12_setFamily_37 : decode cX12_setFamily 37 = .ok (.iload_n 2, 1) := by decide +kernel
theorem d_X12_setFamily_38 : decode cX12_setFamily 38 = .ok (.iload_n 3, 1) := by decide +kernel
theorem d_X12_setFamily_39 : decode cX12_setFamily 39 = .ok (.if_icmp .gt 7, 3) := by decide +kernel
theorem d_X12_setFamily_42 : decode cX12_setFamily 42 = .ok (.iconst 1, 1) := by decide +kernel
theorem d_X12_setFamily_43 : decode cX12_setFamily 43 = .ok (.goto 4, 3) := by decide +kernel
theorem d_X12_setFamily_46 : decode cX12_setFamily 46 = .ok (.iconst 0, 1) := by decide +kernel
theorem d_X12_setFamily_47 : decode cX12_setFamily 47 = .ok (.istore 4, 2) := by decide +kernel
theorem d_X12_setFamily_49 : decode cX12_setFamily 49 = .ok (.iload 4, 2) := by decide +kernel
theorem d_X12_setFamily_51 : decode cX12_setFamily 51 = .ok (.ifCond .eq 15, 3) := by decide +kernel
theorem d_X12_setFamily_54 : decode cX12_setFamily 54 = .ok (.iload_n 1, 1) := by decide +kernel
theorem d_X12_setFamily_55 : decode cX12_setFamily 55 = .ok (.iload_n 2, 1) := by decide +kernel
theorem d_X12_setFamily_56 : decode cX12_setFamily 56 = .ok (.iload_n 3, 1) := by decide +kernel
theorem d_X12_setFamily_57 : decode cX12_setFamily 57 = .ok (.invokestatic 119, 3) := by decide +kernel
theorem d_X12_setFamily_60 : decode cX12_setFamily 60 = .ok (.sipush 200, 3) := by decide +kernel
theorem d_X12_setFamily_63 : decode cX12_setFamily 63 = .ok (.if_icmp .le 9, 3) := by decide +kernel
theorem d_X12_setFamily_66 : decode cX12_setFamily 66 = .ok (.aload_n 0, 1) := by decide +kernel
theorem d_X12_setFamily_67 : decode cX12_setFamily 67 = .ok (.iconst 1, 1) := by decide +kernel
theorem d_X12_setFamily_68 : decode cX12_setFamily 68 = .ok (.invokevirtual 122, 3) := by decide +kernel
theorem d_X12_setFamily_71 : decode cX12_setFamily 71 = .ok (.ireturn, 1) := by decide +kernel
theorem d_X12_setFamily_72 : decode cX12_setFamily 72 = .ok (.aload_n 0, 1) := by decide +kernel
theorem d_X12_setFamily_73 : decode cX12_setFamily 73 = .ok (.iload_n 1, 1) := by decide +kernel
theorem d_X12_setFamily_74 : decode cX12_setFamily 74 = .ok (.putfield 90, 3) := by decide +kernel
theorem d_X12_setFamily_77 : decode cX12_setFamily 77 = .ok (.aload_n 0, 1) := by decide +kernel
theorem d_X12_setFamily_78 : decode cX12_setFamily 78 = .ok (.iload_n 2, 1) := by decide +kernel
theorem d_X12_setFamily_79 : decode cX12_setFamily 79 = .ok (.putfield 13, 3) := by decide +kernel
theorem d_X12_setFamily_82 : decode cX12_setFamily 82 = .ok (.aload_n 0, 1) := by decide +kernel
theorem d_X12_setFamily_83 : decode cX12_setFamily 83 = .ok (.iload_n 3, 1) := by decide +kernel
theorem d_X12_setFamily_84 : decode cX12_setFamily 84 = .ok (.putfield 16, 3) := by decide +kernel
theorem d_X12_setFamily_87 : decode cX12_setFamily 87 = .ok (.aload_n 0, 1) := by decide +kernel
theorem d_X12_setFamily_88 : decode cX12_setFamily 88 = .ok (.invokevirtual 87, 3) := by decide +kernel
theorem d_X12_setFamily_91 : decode cX12_setFamily 91 = .ok (.aload_n 0, 1) := by decide +kernel
theorem d_X12_setFamily_92 : decode cX12_setFamily 92 = .ok (.iconst 0, 1) := by decide +kernel
theorem d_X12_setFamily_93 : decode cX12_setFamily 93 = .ok (.putfield 125, 3) := by decide +kernel
theorem d_X12_setFamily_96 : decode cX12_setFamily 96 = .ok (.aload_n 0, 1) := by decide +kernel
theorem d_X12_setFamily_97 : decode cX12_setFamily 97 = .ok (.iconst 0, 1) := by decide +kernel
theorem d_X12_setFamily_98 : decode cX12_setFamily 98 = .ok (.putfield 128, 3) := by decide +kernel
theorem d_X12_setFamily_101 : decode cX12_setFamily 101 = .ok (.aload_n 0, 1) := by decide +kernel
theorem d_X12_setFamily_102 : decode cX12_setFamily 102 = .ok (.getfield 97, 3) := by decide +kernel
theorem d_X12_setFamily_105 : decode cX12_setFamily 105 = .ok (.ireturn, 1) := by decide +kernel
def f_X12_setFamily_66 (F : Nat) (M : sm_M) : Option (Int32 × sm_M) := (f_X12_fail F (1 : Int32) M).bind fun q1 => some (q1.1, q1.2)
set_option maxRecDepth 100000 in
set_option maxHeartbeats 4000000 in
theorem j_X12_setFamily_66 {sk : List sm_Sh} (hx : sm_ext skM sk) (F : Nat) : ∀ (M : sm_M) (r : Int32 × sm_M), f_X12_setFamily_66 F M = some r → sm_J (md_X12_setFamily, 3, sk, .inl (some (.int r.1)), r.2) 66 [some (.ref 80), none, none, none, none] [] M := by
  intro   M r h
  unfold f_X12_setFamily_66 at h
  refine sm_aload_n (q := 67) d_X12_setFamily_66 rfl rfl ?_
  refine sm_iconst (q := 68) d_X12_setFamily_67 rfl ci_1 ?_
  obtain ⟨q1, e1, h⟩ := sm_bd h
  refine sm_callV (q := 71) (d' := 0) [] [.int (1 : Int32)] d_X12_setFamily_68 rfl lk_X12_122 (hx sx_80) rfl rfl rfl (Nat.le_of_ble_eq_true rfl) (Nat.le_of_ble_eq_true rfl) (c_X12_fail hx F (1 : Int32) M _ e1) (st9 := [.int q1.1]) rfl ?_
  obtain rfl := Option.some.inj h
  exact sm_iret d_X12_setFamily_71 rfl rfl rfl rfl
def f_X12_setFamily_47 (F : Nat) (x1 : Int32) (x2 : Int32) (x3 : Int32) (y0 : Int32) (M : sm_M) : Option (Int32 × sm_M) := if y0 = 0 then (f_X12_setFamily_66 F M) else ((f_X12_countOf F x1 x2 x3 M).bind fun q2 => if q2 ≤ (200 : Int32) then ((f_X12_fill F (sm_mi (sm_mi (sm_mi M 80 1 x1) 80 2 x2) 80 3 x3)).bind fun q4 => some ((((sm_mi (sm_mi q4 80 12 (0 : Int32)) 80 15 (0 : Int32))).1 80 5), (sm_mi (sm_mi q4 80 12 (0 : Int32)) 80 15 (0 : Int32)))) else (f_X12_setFamily_66 F M))
set_option maxRecDepth 100000 in
set_option maxHeartbeats 4000000 in
theorem j_X12_setFamily_47 {sk : List sm_Sh} (hx : sm_ext skM sk) (F : Nat) : ∀ (x1 : Int32) (x2 : Int32) (x3 : Int32) (y0 : Int32) (M : sm_M) (r : Int32 × sm_M), f_X12_setFamily_47 F x1 x2 x3 y0 M = some r → sm_J (md_X12_setFamily, 3, sk, .inl (some (.int r.1)), r.2) 47 [some (.ref 80), some (.int x1), some (.int x2), some (.int x3), none] [.int y0] M := by
  intro x1 x2 x3 y0  M r h
  unfold f_X12_setFamily_47 at h
  refine sm_istore (q := 49) (lt := [some (.ref 80), some (.int x1), some (.int x2), some (.int x3), some (.int y0)]) d_X12_setFamily_47 rfl (Nat.le_of_ble_eq_true rfl) rfl rfl ?_
  refine sm_iload (q := 51) d_X12_setFamily_49 rfl rfl ?_
  refine sm_if_eq (q := 54) (t := 66) d_X12_setFamily_51 rfl rfl (fun c1 => ?_) (fun c1 => ?_)
  · replace h := sm_it c1 h
    refine sm_fg [1, 2, 3, 4] ?_
    exact j_X12_setFamily_66 hx F M _ h
  · replace h := sm_if c1 h
    refine sm_iload_n (q := 55) d_X12_setFamily_54 rfl rfl ?_
    refine sm_iload_n (q := 56) d_X12_setFamily_55 rfl rfl ?_
    refine sm_iload_n (q := 57) d_X12_setFamily_56 rfl rfl ?_
    obtain ⟨q2, e2, h⟩ := sm_bd h
    refine sm_callS (q := 60) (d' := 0) [] [.int x1, .int x2, .int x3] d_X12_setFamily_57 rfl lk_X12_119 rfl (Nat.le_of_ble_eq_true rfl) (Nat.le_of_ble_eq_true rfl) (c_X12_countOf hx F x1 x2 x3 M _ e2) (st9 := [.int q2]) rfl ?_
    refine sm_sipush (q := 63) d_X12_setFamily_60 rfl cs_200 ?_
    refine sm_icmp_le (q := 66) (t := 72) d_X12_setFamily_63 rfl rfl (fun c3 => ?_) (fun c3 => ?_)
    · replace h := sm_it c3 h
      refine sm_aload_n (q := 73) d_X12_setFamily_72 rfl rfl ?_
      refine sm_iload_n (q := 74) d_X12_setFamily_73 rfl rfl ?_
      refine sm_puti (q := 77) d_X12_setFamily_74 rfl fw_X12_90 (hx sx_80) rfl rfl rfl ?_
      refine sm_aload_n (q := 78) d_X12_setFamily_77 rfl rfl ?_
      refine sm_iload_n (q := 79) d_X12_setFamily_78 rfl rfl ?_
      refine sm_puti (q := 82) d_X12_setFamily_79 rfl fw_X12_13 (hx sx_80) rfl rfl rfl ?_
      refine sm_aload_n (q := 83) d_X12_setFamily_82 rfl rfl ?_
      refine sm_iload_n (q := 84) d_X12_setFamily_83 rfl rfl ?_
      refine sm_puti (q := 87) d_X12_setFamily_84 rfl fw_X12_16 (hx sx_80) rfl rfl rfl ?_
      refine sm_aload_n (q := 88) d_X12_setFamily_87 rfl rfl ?_
      obtain ⟨q4, e4, h⟩ := sm_bd h
      refine sm_callV (q := 91) (d' := 2) [] [] d_X12_setFamily_88 rfl lk_X12_87 (hx sx_80) rfl rfl rfl (Nat.le_of_ble_eq_true rfl) (Nat.le_of_ble_eq_true rfl) (c_X12_fill hx F (sm_mi (sm_mi (sm_mi M 80 1 x1) 80 2 x2) 80 3 x3) _ e4) (st9 := []) rfl ?_
      refine sm_aload_n (q := 92) d_X12_setFamily_91 rfl rfl ?_
      refine sm_iconst (q := 93) d_X12_setFamily_92 rfl ci_0 ?_
      refine sm_puti (q := 96) d_X12_setFamily_93 rfl fw_X12_125 (hx sx_80) rfl rfl rfl ?_
      refine sm_aload_n (q := 97) d_X12_setFamily_96 rfl rfl ?_
      refine sm_iconst (q := 98) d_X12_setFamily_97 rfl ci_0 ?_
      refine sm_puti (q := 101) d_X12_setFamily_98 rfl fw_X12_128 (hx sx_80) rfl rfl rfl ?_
      refine sm_aload_n (q := 102) d_X12_setFamily_101 rfl rfl ?_
      refine sm_geti (q := 105) d_X12_setFamily_102 rfl fl_X12_97 (hx sx_80) rfl ?_
      obtain rfl := Option.some.inj h
      exact sm_iret d_X12_setFamily_105 rfl rfl rfl rfl
    · replace h := sm_if c3 h
      refine sm_fg [1, 2, 3, 4] ?_
      exact j_X12_setFamily_66 hx F M _ h
def f_X12_setFamily_42 (F : Nat) (x1 : Int32) (x2 : Int32) (x3 : Int32) (M : sm_M) : Option (Int32 × sm_M) := f_X12_setFamily_47 F x1 x2 x3 (1 : Int32) M
set_option maxRecDepth 100000 in
set_option maxHeartbeats 4000000 in
theorem j_X12_setFamily_42 {sk : List sm_Sh} (hx : sm_ext skM sk) (F : Nat) : ∀ (x1 : Int32) (x2 : Int32) (x3 : Int32) (M : sm_M) (r : Int32 × sm_M), f_X12_setFamily_42 F x1 x2 x3 M = some r → sm_J (md_X12_setFamily, 3, sk, .inl (some (.int r.1)), r.2) 42 [some (.ref 80), some (.int x1), some (.int x2), some (.int x3), none] [] M := by
  intro x1 x2 x3  M r h
  unfold f_X12_setFamily_42 at h
  refine sm_iconst (q := 43) d_X12_setFamily_42 rfl ci_1 ?_
  refine sm_goto (t := 47) d_X12_setFamily_43 rfl ?_
  exact j_X12_setFamily_47 hx F x1 x2 x3 (1 : Int32) M _ h
def f_X12_setFamily_46 (F : Nat) (x1 : Int32) (x2 : Int32) (x3 : Int32) (M : sm_M) : Option (Int32 × sm_M) := f_X12_setFamily_47 F x1 x2 x3 (0 : Int32) M
set_option maxRecDepth 100000 in
set_option maxHeartbeats 4000000 in
theorem j_X12_setFamily_46 {sk : List sm_Sh} (hx : sm_ext skM sk) (F : Nat) : ∀ (x1 : Int32) (x2 : Int32) (x3 : Int32) (M : sm_M) (r : Int32 × sm_M), f_X12_setFamily_46 F x1 x2 x3 M = some r → sm_J (md_X12_setFamily, 3, sk, .inl (some (.int r.1)), r.2) 46 [some (.ref 80), some (.int x1), some (.int x2), some (.int x3), none] [] M := by
  intro x1 x2 x3  M r h
  unfold f_X12_setFamily_46 at h
  refine sm_iconst (q := 47) d_X12_setFamily_46 rfl ci_0 ?_
  exact j_X12_setFamily_47 hx F x1 x2 x3 (0 : Int32) M _ h
def f_X12_setFamily (F : Nat) (x1 : Int32) (x2 : Int32) (x3 : Int32) (M : sm_M) : Option (Int32 × sm_M) := (f_X12_isIn F x1 (0 : Int32) (3 : Int32) (sm_mi M 80 0 (0 : Int32))).bind fun q1 => if q1 = 0 then (f_X12_setFamily_46 F x1 x2 x3 ((sm_mi M 80 0 (0 : Int32)))) else ((f_X12_isIn F x2 (1 : Int32) (5 : Int32) (sm_mi M 80 0 (0 : Int32))).bind fun q3 => if q3 = 0 then (f_X12_setFamily_46 F x1 x2 x3 ((sm_mi M 80 0 (0 : Int32)))) else ((f_X12_isIn F x3 (1 : Int32) (8 : Int32) (sm_mi M 80 0 (0 : Int32))).bind fun q5 => if q5 = 0 then (f_X12_setFamily_46 F x1 x2 x3 ((sm_mi M 80 0 (0 : Int32)))) else (if x1 = 0 then (f_X12_setFamily_42 F x1 x2 x3 ((sm_mi M 80 0 (0 : Int32)))) else (if x3 < x2 then (f_X12_setFamily_46 F x1 x2 x3 ((sm_mi M 80 0 (0 : Int32)))) else (f_X12_setFamily_42 F x1 x2 x3 ((sm_mi M 80 0 (0 : Int32))))))))
set_option maxRecDepth 100000 in
set_option maxHeartbeats 4000000 in
theorem j_X12_setFamily {sk : List sm_Sh} (hx : sm_ext skM sk) (F : Nat) : ∀ (x1 : Int32) (x2 : Int32) (x3 : Int32) (M : sm_M) (r : Int32 × sm_M), f_X12_setFamily F x1 x2 x3 M = some r → sm_J (md_X12_setFamily, 3, sk, .inl (some (.int r.1)), r.2) 0 [some (.ref 80), some (.int x1), some (.int x2), some (.int x3), none] [] M := by
  intro x1 x2 x3  M r h
  unfold f_X12_setFamily at h
  refine sm_aload_n (q := 1) d_X12_setFamily_0 rfl rfl ?_
  refine sm_iconst (q := 2) d_X12_setFamily_1 rfl ci_0 ?_
  refine sm_puti (q := 5) d_X12_setFamily_2 rfl fw_X12_1 (hx sx_80) rfl rfl rfl ?_
  refine sm_iload_n (q := 6) d_X12_setFamily_5 rfl rfl ?_
  refine sm_iconst (q := 7) d_X12_setFamily_6 rfl ci_0 ?_
  refine sm_iconst (q := 8) d_X12_setFamily_7 rfl ci_3 ?_
  obtain ⟨q1, e1, h⟩ := sm_bd h
  refine sm_callS (q := 11) (d' := 0) [] [.int x1, .int (0 : Int32), .int (3 : Int32)] d_X12_setFamily_8 rfl lk_X12_115 rfl (Nat.le_of_ble_eq_true rfl) (Nat.le_of_ble_eq_true rfl) (c_X12_isIn hx F x1 (0 : Int32) (3 : Int32) (sm_mi M 80 0 (0 : Int32)) _ e1) (st9 := [.int q1]) rfl ?_
  refine sm_if_eq (q := 14) (t := 46) d_X12_setFamily_11 rfl rfl (fun c2 => ?_) (fun c2 => ?_)
  · replace h := sm_it c2 h
    exact j_X12_setFamily_46 hx F x1 x2 x3 ((sm_mi M 80 0 (0 : Int32))) _ h
  · replace h := sm_if c2 h
    refine sm_iload_n (q := 15) d_X12_setFamily_14 rfl rfl ?_
    refine sm_iconst (q := 16) d_X12_setFamily_15 rfl ci_1 ?_
    refine sm_iconst (q := 17) d_X12_setFamily_16 rfl ci_5 ?_
    obtain ⟨q3, e3, h⟩ := sm_bd h
    refine sm_callS (q := 20) (d' := 0) [] [.int x2, .int (1 : Int32), .int (5 : Int32)] d_X12_setFamily_17 rfl lk_X12_115 rfl (Nat.le_of_ble_eq_true rfl) (Nat.le_of_ble_eq_true rfl) (c_X12_isIn hx F x2 (1 : Int32) (5 : Int32) (sm_mi M 80 0 (0 : Int32)) _ e3) (st9 := [.int q3]) rfl ?_
    refine sm_if_eq (q := 23) (t := 46) d_X12_setFamily_20 rfl rfl (fun c4 => ?_) (fun c4 => ?_)
    · replace h := sm_it c4 h
      exact j_X12_setFamily_46 hx F x1 x2 x3 ((sm_mi M 80 0 (0 : Int32))) _ h
    · replace h := sm_if c4 h
      refine sm_iload_n (q := 24) d_X12_setFamily_23 rfl rfl ?_
      refine sm_iconst (q := 25) d_X12_setFamily_24 rfl ci_1 ?_
      refine sm_bipush (q := 27) d_X12_setFamily_25 rfl cb_8 ?_
      obtain ⟨q5, e5, h⟩ := sm_bd h
      refine sm_callS (q := 30) (d' := 0) [] [.int x3, .int (1 : Int32), .int (8 : Int32)] d_X12_setFamily_27 rfl lk_X12_115 rfl (Nat.le_of_ble_eq_true rfl) (Nat.le_of_ble_eq_true rfl) (c_X12_isIn hx F x3 (1 : Int32) (8 : Int32) (sm_mi M 80 0 (0 : Int32)) _ e5) (st9 := [.int q5]) rfl ?_
      refine sm_if_eq (q := 33) (t := 46) d_X12_setFamily_30 rfl rfl (fun c6 => ?_) (fun c6 => ?_)
      · replace h := sm_it c6 h
        exact j_X12_setFamily_46 hx F x1 x2 x3 ((sm_mi M 80 0 (0 : Int32))) _ h
      · replace h := sm_if c6 h
        refine sm_iload_n (q := 34) d_X12_setFamily_33 rfl rfl ?_
        refine sm_if_eq (q := 37) (t := 42) d_X12_setFamily_34 rfl rfl (fun c7 => ?_) (fun c7 => ?_)
        · replace h := sm_it c7 h
          exact j_X12_setFamily_42 hx F x1 x2 x3 ((sm_mi M 80 0 (0 : Int32))) _ h
        · replace h := sm_if c7 h
          refine sm_iload_n (q := 38) d_X12_setFamily_37 rfl rfl ?_
          refine sm_iload_n (q := 39) d_X12_setFamily_38 rfl rfl ?_
          refine sm_icmp_gt (q := 42) (t := 46) d_X12_setFamily_39 rfl rfl (fun c8 => ?_) (fun c8 => ?_)
          · replace h := sm_it c8 h
            exact j_X12_setFamily_46 hx F x1 x2 x3 ((sm_mi M 80 0 (0 : Int32))) _ h
          · replace h := sm_if c8 h
            exact j_X12_setFamily_42 hx F x1 x2 x3 ((sm_mi M 80 0 (0 : Int32))) _ h
theorem c_X12_setFamily {sk : List sm_Sh} (hx : sm_ext skM sk) (F : Nat) (x1 : Int32) (x2 : Int32) (x3 : Int32) (M : sm_M) (r : Int32 × sm_M) (h : f_X12_setFamily F x1 x2 x3 M = some r) : sm_Ct yX12_setFamily md_X12_setFamily 3 sk [.ref 80, .int x1, .int x2, .int x3] M (.inl (some (.int r.1))) r.2 := sm_enter 1 pn_X12 rfl (Nat.le_of_ble_eq_true rfl) rfl (j_X12_setFamily hx F x1 x2 x3 M r h)
