/-! ===== methods, decompiled: 10.jdk ===== -/
/-! java/lang/Integer.bitCount(I)I -/
theorem d_J6_bitCount_0f7a4_0 : decode cJ6_bitCount_0f7a4 0 = .ok (.iload_n 0, 1) := by decide +kernel
theorem d_J6_bitCount_0f7a4_1 : decode cJ6_bitCount_0f7a4 1 = .ok (.iload_n 0, 1) := by decide +kernel
theorem d_J6_bitCount_0f7a4_2 : decode cJ6_bitCount_0f7a4 2 = .ok (.iconst 1, 1) := by decide +kernel
theorem d_J6_bitCount_0f7a4_3 : decode cJ6_bitCount_0f7a4 3 = .ok (.iushr, 1) := by decide +kernel
theorem d_J6_bitCount_0f7a4_4 : decode cJ6_bitCount_0f7a4 4 = .ok (.ldc_w 265, 3) := by decide +kernel
theorem d_J6_bitCount_0f7a4_7 : decode cJ6_bitCount_0f7a4 7 = .ok (.iand, 1) := by decide +kernel
theorem d_J6_bitCount_0f7a4_8 : decode cJ6_bitCount_0f7a4 8 = .ok (.isub, 1) := by decide +kernel
theorem d_J6_bitCount_0f7a4_9 : decode cJ6_bitCount_0f7a4 9 = .ok (.istore_n 0, 1) := by decide +kernel
theorem d_J6_bitCount_0f7a4_10 : decode cJ6_bitCount_0f7a4 10 = .ok (.iload_n 0, 1) := by decide +kernel
theorem d_J6_bitCount_0f7a4_11 : decode cJ6_bitCount_0f7a4 11 = .ok (.ldc_w 266, 3) := by decide +kernel
theorem d_J6_bitCount_0f7a4_14 : decode cJ6_bitCount_0f7a4 14 = .ok (.iand, 1) := by decide +kernel
theorem d_J6_bitCount_0f7a4_15 : decode cJ6_bitCount_0f7a4 15 = .ok (.iload_n 0, 1) := by decide +kernel
theorem d_J6_bitCount_0f7a4_16 : decode cJ6_bitCount_0f7a4 16 = .ok (.iconst 2, 1) := by decide +kernel
theorem d_J6_bitCount_0f7a4_17 : decode cJ6_bitCount_0f7a4 17 = .ok (.iushr, 1) := by decide +kernel
theorem d_J6_bitCount_0f7a4_18 : decode cJ6_bitCount_0f7a4 18 = .ok (.ldc_w 266, 3) := by decide +kernel
theorem d_J6_bitCount_0f7a4_21 : decode cJ6_bitCount_0f7a4 21 = .ok (.iand, 1) := by decide +kernel
theorem d_J6_bitCount_0f7a4_22 : decode cJ6_bitCount_0f7a4 22 = .ok (.iadd, 1) := by decide +kernel
theorem d_J6_bitCount_0f7a4_23 : decode cJ6_bitCount_0f7a4 23 = .ok (.istore_n 0, 1) := by decide +kernel
theorem d_J6_bitCount_0f7a4_24 : decode cJ6_bitCount_0f7a4 24 = .ok (.iload_n 0, 1) := by decide +kernel
theorem d_J6_bitCount_0f7a4_25 : decode cJ6_bitCount_0f7a4 25 = .ok (.iload_n 0, 1) := by decide +kernel
theorem d_J6_bitCount_0f7a4_26 : decode cJ6_bitCount_0f7a4 26 = .ok (.iconst 4, 1) := by decide +kernel
theorem d_J6_bitCount_0f7a4_27 : decode cJ6_bitCount_0f7a4 27 = .ok (.iushr, 1) := by decide +kernel
theorem d_J6_bitCount_0f7a4_28 : decode cJ6_bitCount_0f7a4 28 = .ok (.iadd, 1) := by decide +kernel
theorem d_J6_bitCount_0f7a4_29 : decode cJ6_bitCount_0f7a4 29 = .ok (.ldc_w 267, 3) := by decide +kernel
theorem d_J6_bitCount_0f7a4_32 : decode cJ6_bitCount_0f7a4 32 = .ok (.iand, 1) := by decide +kernel
theorem d_J6_bitCount_0f7a4_33 : decode cJ6_bitCount_0f7a4 33 = .ok (.istore_n 0, 1) := by decide +kernel
theorem d_J6_bitCount_0f7a4_34 : decode cJ6_bitCount_0f7a4 34 = .ok (.iload_n 0, 1) := by decide +kernel
theorem d_J6_bitCount_0f7a4_35 : decode cJ6_bitCount_0f7a4 35 = .ok (.iload_n 0, 1) := by decide +kernel
theorem d_J6_bitCount_0f7a4_36 : decode cJ6_bitCount_0f7a4 36 = .ok (.bipush 8, 2) := by decide +kernel
theorem d_J6_bitCount_0f7a4_38 : decode cJ6_bitCount_0f7a4 38 = .ok (.iushr, 1) := by decide +kernel
theorem d_J6_bitCount_0f7a4_39 : decode cJ6_bitCount_0f7a4 39 = .ok (.iadd, 1) := by decide +kernel
theorem d_J6_bitCount_0f7a4_40 : decode cJ6_bitCount_0f7a4 40 = .ok (.istore_n 0, 1) := by decide +kernel
theorem d_J6_bitCount_0f7a4_41 : decode cJ6_bitCount_0f7a4 41 = .ok (.iload_n 0, 1) := by decide +kernel
theorem d_J6_bitCount_0f7a4_42 : decode cJ6_bitCount_0f7a4 42 = .ok (.iload_n 0, 1) := by decide +kernel
theorem d_J6_bitCount_0f7a4_43 : decode cJ6_bitCount_0f7a4 43 = .ok (.bipush 16, 2) := by decide +kernel
theorem d_J6_bitCount_0f7a4_45 : decode cJ6_bitCount_0f7a4 45 = .ok (.iushr, 1) := by decide +kernel
theorem d_J6_bitCount_0f7a4_46 : decode cJ6_bitCount_0f7a4 46 = .ok (.iadd, 1) := by decide +kernel
theorem d_J6_bitCount_0f7a4_47 : decode cJ6_bitCount_0f7a4 47 = .ok (.istore_n 0, 1) := by decide +kernel
theorem d_J6_bitCount_0f7a4_48 : decode cJ6_bitCount_0f7a4 48 = .ok (.iload_n 0, 1) := by decide +kernel
theorem d_J6_bitCount_0f7a4_49 : decode cJ6_bitCount_0f7a4 49 = .ok (.bipush 63, 2) := by decide +kernel
theorem d_J6_bitCount_0f7a4_51 : decode cJ6_bitCount_0f7a4 51 = .ok (.iand, 1) := by decide +kernel
theorem d_J6_bitCount_0f7a4_52 : decode cJ6_bitCount_0f7a4 52 = .ok (.ireturn, 1) := by decide +kernel
def f_J6_bitCount_0f7a4_48 (F : Nat) (x0 : Int32) (M : sm_M) : Option (Int32) := some (x0 &&& (63 : Int32))
set_option maxRecDepth 100000 in
set_option maxHeartbeats 4000000 in
theorem j_J6_bitCount_0f7a4_48 {base sk : List sm_Sh} (hx : sm_ext base sk) (F : Nat) : ∀ (x0 : Int32) (M : sm_M) (r : Int32), f_J6_bitCount_0f7a4_48 F x0 M = some r → sm_J (md_J6_bitCount_0f7a4, 0, sk, .inl (some (.int r)), M) 48 [some (.int x0)] [] M := by
  intro x0  M r h
  unfold f_J6_bitCount_0f7a4_48 at h
  refine sm_iload_n (q := 49) d_J6_bitCount_0f7a4_48 rfl rfl ?_
  refine sm_bipush (q := 51) d_J6_bitCount_0f7a4_49 rfl cb_63 ?_
  refine sm_iand (q := 52) d_J6_bitCount_0f7a4_51 rfl ?_
  obtain rfl := Option.some.inj h
  exact sm_iret d_J6_bitCount_0f7a4_52 rfl rfl rfl rfl
def f_J6_bitCount_0f7a4_41 (F : Nat) (x0 : Int32) (M : sm_M) : Option (Int32) := f_J6_bitCount_0f7a4_48 F (x0 + (x0.toUInt32 >>> ((16 : Int32).toUInt32 &&& Int32.toUInt32 31)).toInt32) M
set_option maxRecDepth 100000 in
set_option maxHeartbeats 4000000 in
theorem j_J6_bitCount_0f7a4_41 {base sk : List sm_Sh} (hx : sm_ext base sk) (F : Nat) : ∀ (x0 : Int32) (M : sm_M) (r : Int32), f_J6_bitCount_0f7a4_41 F x0 M = some r → sm_J (md_J6_bitCount_0f7a4, 0, sk, .inl (some (.int r)), M) 41 [some (.int x0)] [] M := by
  intro x0  M r h
  unfold f_J6_bitCount_0f7a4_41 at h
  refine sm_iload_n (q := 42) d_J6_bitCount_0f7a4_41 rfl rfl ?_
  refine sm_iload_n (q := 43) d_J6_bitCount_0f7a4_42 rfl rfl ?_
  refine sm_bipush (q := 45) d_J6_bitCount_0f7a4_43 rfl cb_16 ?_
  refine sm_iushr (q := 46) d_J6_bitCount_0f7a4_45 rfl ?_
  refine sm_iadd (q := 47) d_J6_bitCount_0f7a4_46 rfl ?_
  refine sm_istore_n (q := 48) (lt := [some (.int (x0 + (x0.toUInt32 >>> ((16 : Int32).toUInt32 &&& Int32.toUInt32 31)).toInt32))]) d_J6_bitCount_0f7a4_47 rfl (Nat.le_of_ble_eq_true rfl) rfl rfl ?_
  exact j_J6_bitCount_0f7a4_48 hx F (x0 + (x0.toUInt32 >>> ((16 : Int32).toUInt32 &&& Int32.toUInt32 31)).toInt32) M _ h
def f_J6_bitCount_0f7a4_34 (F : Nat) (x0 : Int32) (M : sm_M) : Option (Int32) := f_J6_bitCount_0f7a4_41 F (x0 + (x0.toUInt32 >>> ((8 : Int32).toUInt32 &&& Int32.toUInt32 31)).toInt32) M
set_option maxRecDepth 100000 in
set_option maxHeartbeats 4000000 in
theorem j_J6_bitCount_0f7a4_34 {base sk : List sm_Sh} (hx : sm_ext base sk) (F : Nat) : ∀ (x0 : Int32) (M : sm_M) (r : Int32), f_J6_bitCount_0f7a4_34 F x0 M = some r → sm_J (md_J6_bitCount_0f7a4, 0, sk, .inl (some (.int r)), M) 34 [some (.int x0)] [] M := by
  intro x0  M r h
  unfold f_J6_bitCount_0f7a4_34 at h
  refine sm_iload_n (q := 35) d_J6_bitCount_0f7a4_34 rfl rfl ?_
  refine sm_iload_n (q := 36) d_J6_bitCount_0f7a4_35 rfl rfl ?_
  refine sm_bipush (q := 38) d_J6_bitCount_0f7a4_36 rfl cb_8 ?_
  refine sm_iushr (q := 39) d_J6_bitCount_0f7a4_38 rfl ?_
  refine sm_iadd (q := 40) d_J6_bitCount_0f7a4_39 rfl ?_
  refine sm_istore_n (q := 41) (lt := [some (.int (x0 + (x0.toUInt32 >>> ((8 : Int32).toUInt32 &&& Int32.toUInt32 31)).toInt32))]) d_J6_bitCount_0f7a4_40 rfl (Nat.le_of_ble_eq_true rfl) rfl rfl ?_
  exact j_J6_bitCount_0f7a4_41 hx F (x0 + (x0.toUInt32 >>> ((8 : Int32).toUInt32 &&& Int32.toUInt32 31)).toInt32) M _ h
def f_J6_bitCount_0f7a4_24 (F : Nat) (x0 : Int32) (M : sm_M) : Option (Int32) := f_J6_bitCount_0f7a4_34 F ((x0 + (x0.toUInt32 >>> ((4 : Int32).toUInt32 &&& Int32.toUInt32 31)).toInt32) &&& (252645135 : Int32)) M
set_option maxRecDepth 100000 in
set_option maxHeartbeats 4000000 in
theorem j_J6_bitCount_0f7a4_24 {base sk : List sm_Sh} (hx : sm_ext base sk) (F : Nat) : ∀ (x0 : Int32) (M : sm_M) (r : Int32), f_J6_bitCount_0f7a4_24 F x0 M = some r → sm_J (md_J6_bitCount_0f7a4, 0, sk, .inl (some (.int r)), M) 24 [some (.int x0)] [] M := by
  intro x0  M r h
  unfold f_J6_bitCount_0f7a4_24 at h
  refine sm_iload_n (q := 25) d_J6_bitCount_0f7a4_24 rfl rfl ?_
  refine sm_iload_n (q := 26) d_J6_bitCount_0f7a4_25 rfl rfl ?_
  refine sm_iconst (q := 27) d_J6_bitCount_0f7a4_26 rfl ci_4 ?_
  refine sm_iushr (q := 28) d_J6_bitCount_0f7a4_27 rfl ?_
  refine sm_iadd (q := 29) d_J6_bitCount_0f7a4_28 rfl ?_
  refine sm_ldcw (q := 32) (v := 252645135) d_J6_bitCount_0f7a4_29 rfl cn_J6_267 ?_
  refine sm_iand (q := 33) d_J6_bitCount_0f7a4_32 rfl ?_
  refine sm_istore_n (q := 34) (lt := [some (.int ((x0 + (x0.toUInt32 >>> ((4 : Int32).toUInt32 &&& Int32.toUInt32 31)).toInt32) &&& (252645135 : Int32)))]) d_J6_bitCount_0f7a4_33 rfl (Nat.le_of_ble_eq_true rfl) rfl rfl ?_
  exact j_J6_bitCount_0f7a4_34 hx F ((x0 + (x0.toUInt32 >>> ((4 : Int32).toUInt32 &&& Int32.toUInt32 31)).toInt32) &&& (252645135 : Int32)) M _ h
def f_J6_bitCount_0f7a4_10 (F : Nat) (x0 : Int32) (M : sm_M) : Option (Int32) := f_J6_bitCount_0f7a4_24 F ((x0 &&& (858993459 : Int32)) + ((x0.toUInt32 >>> ((2 : Int32).toUInt32 &&& Int32.toUInt32 31)).toInt32 &&& (858993459 : Int32))) M
set_option maxRecDepth 100000 in
set_option maxHeartbeats 4000000 in
theorem j_J6_bitCount_0f7a4_10 {base sk : List sm_Sh} (hx : sm_ext base sk) (F : Nat) : ∀ (x0 : Int32) (M : sm_M) (r : Int32), f_J6_bitCount_0f7a4_10 F x0 M = some r → sm_J (md_J6_bitCount_0f7a4, 0, sk, .inl (some (.int r)), M) 10 [some (.int x0)] [] M := by
  intro x0  M r h
  unfold f_J6_bitCount_0f7a4_10 at h
  refine sm_iload_n (q := 11) d_J6_bitCount_0f7a4_10 rfl rfl ?_
  refine sm_ldcw (q := 14) (v := 858993459) d_J6_bitCount_0f7a4_11 rfl cn_J6_266 ?_
  refine sm_iand (q := 15) d_J6_bitCount_0f7a4_14 rfl ?_
  refine sm_iload_n (q := 16) d_J6_bitCount_0f7a4_15 rfl rfl ?_
  refine sm_iconst (q := 17) d_J6_bitCount_0f7a4_16 rfl ci_2 ?_
  refine sm_iushr (q := 18) d_J6_bitCount_0f7a4_17 rfl ?_
  refine sm_ldcw (q := 21) (v := 858993459) d_J6_bitCount_0f7a4_18 rfl cn_J6_266 ?_
  refine sm_iand (q := 22) d_J6_bitCount_0f7a4_21 rfl ?_
  refine sm_iadd (q := 23) d_J6_bitCount_0f7a4_22 rfl ?_
  refine sm_istore_n (q := 24) (lt := [some (.int ((x0 &&& (858993459 : Int32)) + ((x0.toUInt32 >>> ((2 : Int32).toUInt32 &&& Int32.toUInt32 31)).toInt32 &&& (858993459 : Int32))))]) d_J6_bitCount_0f7a4_23 rfl (Nat.le_of_ble_eq_true rfl) rfl rfl ?_
  exact j_J6_bitCount_0f7a4_24 hx F ((x0 &&& (858993459 : Int32)) + ((x0.toUInt32 >>> ((2 : Int32).toUInt32 &&& Int32.toUInt32 31)).toInt32 &&& (858993459 : Int32))) M _ h
def f_J6_bitCount_0f7a4 (F : Nat) (x0 : Int32) (M : sm_M) : Option (Int32) := f_J6_bitCount_0f7a4_10 F (x0 - ((x0.toUInt32 >>> ((1 : Int32).toUInt32 &&& Int32.toUInt32 31)).toInt32 &&& (1431655765 : Int32))) M
set_option maxRecDepth 100000 in
set_option maxHeartbeats 4000000 in
theorem j_J6_bitCount_0f7a4 {base sk : List sm_Sh} (hx : sm_ext base sk) (F : Nat) : ∀ (x0 : Int32) (M : sm_M) (r : Int32), f_J6_bitCount_0f7a4 F x0 M = some r → sm_J (md_J6_bitCount_0f7a4, 0, sk, .inl (some (.int r)), M) 0 [some (.int x0)] [] M := by
  intro x0  M r h
  unfold f_J6_bitCount_0f7a4 at h
  refine sm_iload_n (q := 1) d_J6_bitCount_0f7a4_0 rfl rfl ?_
  refine sm_iload_n (q := 2) d_J6_bitCount_0f7a4_1 rfl rfl ?_
  refine sm_iconst (q := 3) d_J6_bitCount_0f7a4_2 rfl ci_1 ?_
  refine sm_iushr (q := 4) d_J6_bitCount_0f7a4_3 rfl ?_
  refine sm_ldcw (q := 7) (v := 1431655765) d_J6_bitCount_0f7a4_4 rfl cn_J6_265 ?_
  refine sm_iand (q := 8) d_J6_bitCount_0f7a4_7 rfl ?_
  refine sm_isub (q := 9) d_J6_bitCount_0f7a4_8 rfl ?_
  refine sm_istore_n (q := 10) (lt := [some (.int (x0 - ((x0.toUInt32 >>> ((1 : Int32).toUInt32 &&& Int32.toUInt32 31)).toInt32 &&& (1431655765 : Int32))))]) d_J6_bitCount_0f7a4_9 rfl (Nat.le_of_ble_eq_true rfl) rfl rfl ?_
  exact j_J6_bitCount_0f7a4_10 hx F (x0 - ((x0.toUInt32 >>> ((1 : Int32).toUInt32 &&& Int32.toUInt32 31)).toInt32 &&& (1431655765 : Int32))) M _ h
theorem c_J6_bitCount_0f7a4 {base sk : List sm_Sh} (hx : sm_ext base sk) (F : Nat) (x0 : Int32) (M : sm_M) (r : Int32) (h : f_J6_bitCount_0f7a4 F x0 M = some r) : sm_Ct yJ6_bitCount_0f7a4 md_J6_bitCount_0f7a4 0 sk [.int x0] M (.inl (some (.int r))) M := sm_enter 0 pn_J6 rfl (Nat.le_of_ble_eq_true rfl) rfl (j_J6_bitCount_0f7a4 hx F x0 M r h)
/-! java/util/Arrays.fill([II)V -/
theorem d_J7_fill_53178_0 : decode cJ7_fill_53178 0 = .ok (.iconst 0, 1) := by decide +kernel
theorem d_J7_fill_53178_1 : decode cJ7_fill_53178 1 = .ok (.istore_n 2, 1) := by decide +kernel
theorem d_J7_fill_53178_2 : decode cJ7_fill_53178 2 = .ok (.aload_n 0, 1) := by decide +kernel
theorem d_J7_fill_53178_3 : decode cJ7_fill_53178 3 = .ok (.arraylength, 1) := by decide +kernel
theorem d_J7_fill_53178_4 : decode cJ7_fill_53178 4 = .ok (.istore_n 3, 1) := by decide +kernel
theorem d_J7_fill_53178_5 : decode cJ7_fill_53178 5 = .ok (.iload_n 2, 1) := by decide +kernel
theorem d_J7_fill_53178_6 : decode cJ7_fill_53178 6 = .ok (.iload_n 3, 1) := by decide +kernel
theorem d_J7_fill_53178_7 : decode cJ7_fill_53178 7 = .ok (.if_icmp .ge 13, 3) := by decide +kernel
theorem d_J7_fill_53178_10 : decode cJ7_fill_53178 10 = .ok (.aload_n 0, 1) := by decide +kernel
theorem d_J7_fill_53178_11 : decode cJ7_fill_53178 11 = .ok (.iload_n 2, 1) := by decide +kernel
theorem d_J7_fill_53178_12 : decode cJ7_fill_53178 12 = .ok (.iload_n 1, 1) := by decide +kernel
theorem d_J7_fill_53178_13 : decode cJ7_fill_53178 13 = .ok (.iastore, 1) := by decide +kernel
theorem d_J7_fill_53178_14 : decode cJ7_fill_53178 14 = .ok (.iinc 2 1, 3) := by decide +kernel
theorem d_J7_fill_53178_17 : decode cJ7_fill_53178 17 = .ok (.goto (-12), 3) := by decide +kernel
theorem d_J7_fill_53178_20 : decode cJ7_fill_53178 20 = .ok (.return_, 1) := by decide +kernel
def f_J7_fill_53178_5b (F : Nat) (a0 n0 : Nat) (kb5 : Int32 → Int32 → Int32 → sm_M → Option (sm_M)) (x1 : Int32) (x2 : Int32) (x3 : Int32) (M : sm_M) : Option (sm_M) := if x3 ≤ x2 then (some M) else (sm_g (sm_ib x2 n0) (kb5 x1 (x2 + 1) x3 ((sm_mi M a0 x2.toNatClampNeg x1))))
set_option maxRecDepth 100000 in
set_option maxHeartbeats 4000000 in
theorem j_J7_fill_53178_5b {base sk : List sm_Sh} (hx : sm_ext base sk) (F : Nat) (a0 n0 : Nat) (ha0 : sm_ints sk a0 n0) (kb5 : Int32 → Int32 → Int32 → sm_M → Option (sm_M)) (hkb5 : ∀ (x1 : Int32) (x2 : Int32) (x3 : Int32) (M : sm_M) (r : sm_M), kb5 x1 x2 x3 M = some r → sm_J (md_J7_fill_53178, 0, sk, .inl none, r) 5 [some (.ref a0), some (.int x1), some (.int x2), some (.int x3)] [] M) : ∀ (x1 : Int32) (x2 : Int32) (x3 : Int32) (M : sm_M) (r : sm_M), f_J7_fill_53178_5b F a0 n0 kb5 x1 x2 x3 M = some r → sm_J (md_J7_fill_53178, 0, sk, .inl none, r) 5 [some (.ref a0), some (.int x1), some (.int x2), some (.int x3)] [] M := by
  intro x1 x2 x3  M r h
  unfold f_J7_fill_53178_5b at h
  refine sm_iload_n (q := 6) d_J7_fill_53178_5 rfl rfl ?_
  refine sm_iload_n (q := 7) d_J7_fill_53178_6 rfl rfl ?_
  refine sm_icmp_ge (q := 10) (t := 20) d_J7_fill_53178_7 rfl rfl (fun c1 => ?_) (fun c1 => ?_)
  · replace h := sm_it c1 h
    obtain rfl := Option.some.inj h
    exact sm_vret d_J7_fill_53178_20 rfl rfl rfl
  · replace h := sm_if c1 h
    refine sm_aload_n (q := 11) d_J7_fill_53178_10 rfl rfl ?_
    refine sm_iload_n (q := 12) d_J7_fill_53178_11 rfl rfl ?_
    refine sm_iload_n (q := 13) d_J7_fill_53178_12 rfl rfl ?_
    obtain ⟨g2, h⟩ := sm_gt h
    refine sm_iastore (q := 14) d_J7_fill_53178_13 rfl ha0 (sm_ib_of g2) ?_
    refine sm_iinc (q := 17) (v := (x2 + 1)) (lt := [some (.ref a0), some (.int x1), some (.int (x2 + 1)), some (.int x3)]) d_J7_fill_53178_14 rfl rfl (ii_1 _) (Nat.le_of_ble_eq_true rfl) rfl rfl ?_
    refine sm_goto (t := 5) d_J7_fill_53178_17 rfl ?_
    exact hkb5 x1 (x2 + 1) x3 ((sm_mi M a0 x2.toNatClampNeg x1)) _ h
def f_J7_fill_53178_5 (F : Nat) (a0 n0 : Nat) (n : Nat) : Int32 → Int32 → Int32 → sm_M → Option (sm_M) := match n with
 | 0 => fun _ _ _ _ => none
 | n + 1 => f_J7_fill_53178_5b F a0 n0 (f_J7_fill_53178_5 F a0 n0 n)
theorem j_J7_fill_53178_5 {base sk : List sm_Sh} (hx : sm_ext base sk) (F : Nat) (a0 n0 : Nat) (ha0 : sm_ints sk a0 n0) : ∀ (n : Nat) (x1 : Int32) (x2 : Int32) (x3 : Int32) (M : sm_M) (r : sm_M), f_J7_fill_53178_5 F a0 n0 n x1 x2 x3 M = some r → sm_J (md_J7_fill_53178, 0, sk, .inl none, r) 5 [some (.ref a0), some (.int x1), some (.int x2), some (.int x3)] [] M := by
  intro n
  induction n with
  | zero => intro x1 x2 x3  M r h; exact nomatch (show (none : Option (sm_M)) = some r from h)
  | succ n ih => exact j_J7_fill_53178_5b hx F a0 n0 ha0 (f_J7_fill_53178_5 F a0 n0 n) ih
def f_J7_fill_53178 (F : Nat) (a0 n0 : Nat) (x1 : Int32) (M : sm_M) : Option (sm_M) := f_J7_fill_53178_5 F a0 n0 F x1 (0 : Int32) (Int32.ofNat n0) M
set_option maxRecDepth 100000 in
set_option maxHeartbeats 4000000 in
theorem j_J7_fill_53178 {base sk : List sm_Sh} (hx : sm_ext base sk) (F : Nat) (a0 n0 : Nat) (ha0 : sm_ints sk a0 n0) : ∀ (x1 : Int32) (M : sm_M) (r : sm_M), f_J7_fill_53178 F a0 n0 x1 M = some r → sm_J (md_J7_fill_53178, 0, sk, .inl none, r) 0 [some (.ref a0), some (.int x1), none, none] [] M := by
  intro x1  M r h
  unfold f_J7_fill_53178 at h
  refine sm_iconst (q := 1) d_J7_fill_53178_0 rfl ci_0 ?_
  refine sm_istore_n (q := 2) (lt := [some (.ref a0), some (.int x1), some (.int (0 : Int32)), none]) d_J7_fill_53178_1 rfl (Nat.le_of_ble_eq_true rfl) rfl rfl ?_
  refine sm_aload_n (q := 3) d_J7_fill_53178_2 rfl rfl ?_
  refine sm_arraylength (q := 4) d_J7_fill_53178_3 rfl ha0 (by decide) rfl ?_
  refine sm_istore_n (q := 5) (lt := [some (.ref a0), some (.int x1), some (.int (0 : Int32)), some (.int (Int32.ofNat n0))]) d_J7_fill_53178_4 rfl (Nat.le_of_ble_eq_true rfl) rfl rfl ?_
  exact j_J7_fill_53178_5 hx F a0 n0 ha0 F x1 (0 : Int32) (Int32.ofNat n0) M _ h
theorem c_J7_fill_53178 {base sk : List sm_Sh} (hx : sm_ext base sk) (F : Nat) (a0 n0 : Nat) (ha0 : sm_ints sk a0 n0) (x1 : Int32) (M : sm_M) (r : sm_M) (h : f_J7_fill_53178 F a0 n0 x1 M = some r) : sm_Ct yJ7_fill_53178 md_J7_fill_53178 0 sk [.ref a0, .int x1] M (.inl none) r := sm_enter 2 pn_J7 rfl (Nat.le_of_ble_eq_true rfl) rfl (j_J7_fill_53178 hx F a0 n0 ha0 x1 M r h)
/-! java/util/Arrays.fill([JJ)V -/
theorem d_J7_fill_d0a16_0 : decode cJ7_fill_d0a16 0 = .ok (.iconst 0, 1) := by decide +kernel
theorem d_J7_fill_d0a16_1 : decode cJ7_fill_d0a16 1 = .ok (.istore_n 3, 1) := by decide +kernel
theorem d_J7_fill_d0a16_2 : decode cJ7_fill_d0a16 2 = .ok (.aload_n 0, 1) := by decide +kernel
theorem d_J7_fill_d0a16_3 : decode cJ7_fill_d0a16 3 = .ok (.arraylength, 1) := by decide +kernel
theorem d_J7_fill_d0a16_4 : decode cJ7_fill_d0a16 4 = .ok (.istore 4, 2) := by decide +kernel
theorem d_J7_fill_d0a16_6 : decode cJ7_fill_d0a16 6 = .ok (.iload_n 3, 1) := by decide +kernel
theorem d_J7_fill_d0a16_7 : decode cJ7_fill_d0a16 7 = .ok (.iload 4, 2) := by decide +kernel
theorem d_J7_fill_d0a16_9 : decode cJ7_fill_d0a16 9 = .ok (.if_icmp .ge 13, 3) := by decide +kernel
theorem d_J7_fill_d0a16_12 : decode cJ7_fill_d0a16 12 = .ok (.aload_n 0, 1) := by decide +kernel
theorem d_J7_fill_d0a16_13 : decode cJ7_fill_d0a16 13 = .ok (.iload_n 3, 1) := by decide +kernel
theorem d_J7_fill_d0a16_14 : decode cJ7_fill_d0a16 14 = .ok (.lload_n 1, 1) := by decide +kernel
theorem d_J7_fill_d0a16_15 : decode cJ7_fill_d0a16 15 = .ok (.lastore, 1) := by decide +kernel
theorem d_J7_fill_d0a16_16 : decode cJ7_fill_d0a16 16 = .ok (.iinc 3 1, 3) := by decide +kernel
theorem d_J7_fill_d0a16_19 : decode cJ7_fill_d0a16 19 = .ok (.goto (-13), 3) := by decide +kernel
theorem d_J7_fill_d0a16_22 : decode cJ7_fill_d0a16 22 = .ok (.return_, 1) := by decide +kernel
def f_J7_fill_d0a16_6b (F : Nat) (a0 n0 : Nat) (kb6 : Int64 → Int32 → Int32 → sm_M → Option (sm_M)) (x1 : Int64) (x3 : Int32) (x4 : Int32) (M : sm_M) : Option (sm_M) := if x4 ≤ x3 then (some M) else (sm_g (sm_ib x3 n0) (kb6 x1 (x3 + 1) x4 ((sm_ml M a0 x3.toNatClampNeg x1))))
set_option maxRecDepth 100000 in
set_option maxHeartbeats 4000000 in
theorem j_J7_fill_d0a16_6b {base sk : List sm_Sh} (hx : sm_ext base sk) (F : Nat) (a0 n0 : Nat) (ha0 : sm_longs sk a0 n0) (kb6 : Int64 → Int32 → Int32 → sm_M → Option (sm_M)) (hkb6 : ∀ (x1 : Int64) (x3 : Int32) (x4 : Int32) (M : sm_M) (r : sm_M), kb6 x1 x3 x4 M = some r → sm_J (md_J7_fill_d0a16, 0, sk, .inl none, r) 6 [some (.ref a0), some (.long x1), none, some (.int x3), some (.int x4)] [] M) : ∀ (x1 : Int64) (x3 : Int32) (x4 : Int32) (M : sm_M) (r : sm_M), f_J7_fill_d0a16_6b F a0 n0 kb6 x1 x3 x4 M = some r → sm_J (md_J7_fill_d0a16, 0, sk, .inl none, r) 6 [some (.ref a0), some (.long x1), none, some (.int x3), some (.int x4)] [] M := by
  intro x1 x3 x4  M r h
  unfold f_J7_fill_d0a16_6b at h
  refine sm_iload_n (q := 7) d_J7_fill_d0a16_6 rfl rfl ?_
  refine sm_iload (q := 9) d_J7_fill_d0a16_7 rfl rfl ?_
  refine sm_icmp_ge (q := 12) (t := 22) d_J7_fill_d0a16_9 rfl rfl (fun c1 => ?_) (fun c1 => ?_)
  · replace h := sm_it c1 h
    obtain rfl := Option.some.inj h
    exact sm_vret d_J7_fill_d0a16_22 rfl rfl rfl
  · replace h := sm_if c1 h
    refine sm_aload_n (q := 13) d_J7_fill_d0a16_12 rfl rfl ?_
    refine sm_iload_n (q := 14) d_J7_fill_d0a16_13 rfl rfl ?_
    refine sm_lload_n (q := 15) d_J7_fill_d0a16_14 rfl rfl ?_
    obtain ⟨g2, h⟩ := sm_gt h
    refine sm_lastore (q := 16) d_J7_fill_d0a16_15 rfl ha0 (sm_ib_of g2) ?_
    refine sm_iinc (q := 19) (v := (x3 + 1)) (lt := [some (.ref a0), some (.long x1), none, some (.int (x3 + 1)), some (.int x4)]) d_J7_fill_d0a16_16 rfl rfl (ii_1 _) (Nat.le_of_ble_eq_true rfl) rfl rfl ?_
    refine sm_goto (t := 6) d_J7_fill_d0a16_19 rfl ?_
    exact hkb6 x1 (x3 + 1) x4 ((sm_ml M a0 x3.toNatClampNeg x1)) _ h
def f_J7_fill_d0a16_6 (F : Nat) (a0 n0 : Nat) (n : Nat) : Int64 → Int32 → Int32 → sm_M → Option (sm_M) := match n with
 | 0 => fun _ _ _ _ => none
 | n + 1 => f_J7_fill_d0a16_6b F a0 n0 (f_J7_fill_d0a16_6 F a0 n0 n)
theorem j_J7_fill_d0a16_6 {base sk : List sm_Sh} (hx : sm_ext base sk) (F : Nat) (a0 n0 : Nat) (ha0 : sm_longs sk a0 n0) : ∀ (n : Nat) (x1 : Int64) (x3 : Int32) (x4 : Int32) (M : sm_M) (r : sm_M), f_J7_fill_d0a16_6 F a0 n0 n x1 x3 x4 M = some r → sm_J (md_J7_fill_d0a16, 0, sk, .inl none, r) 6 [some (.ref a0), some (.long x1), none, some (.int x3), some (.int x4)] [] M := by
  intro n
  induction n with
  | zero => intro x1 x3 x4  M r h; exact nomatch (show (none : Option (sm_M)) = some r from h)
  | succ n ih => exact j_J7_fill_d0a16_6b hx F a0 n0 ha0 (f_J7_fill_d0a16_6 F a0 n0 n) ih
def f_J7_fill_d0a16 (F : Nat) (a0 n0 : Nat) (x1 : Int64) (M : sm_M) : Option (sm_M) := f_J7_fill_d0a16_6 F a0 n0 F x1 (0 : Int32) (Int32.ofNat n0) M
set_option maxRecDepth 100000 in
set_option maxHeartbeats 4000000 in
theorem j_J7_fill_d0a16 {base sk : List sm_Sh} (hx : sm_ext base sk) (F : Nat) (a0 n0 : Nat) (ha0 : sm_longs sk a0 n0) : ∀ (x1 : Int64) (M : sm_M) (r : sm_M), f_J7_fill_d0a16 F a0 n0 x1 M = some r → sm_J (md_J7_fill_d0a16, 0, sk, .inl none, r) 0 [some (.ref a0), some (.long x1), none, none, none] [] M := by
  intro x1  M r h
  unfold f_J7_fill_d0a16 at h
  refine sm_iconst (q := 1) d_J7_fill_d0a16_0 rfl ci_0 ?_
  refine sm_istore_n (q := 2) (lt := [some (.ref a0), some (.long x1), none, some (.int (0 : Int32)), none]) d_J7_fill_d0a16_1 rfl (Nat.le_of_ble_eq_true rfl) rfl rfl ?_
  refine sm_aload_n (q := 3) d_J7_fill_d0a16_2 rfl rfl ?_
  refine sm_arraylength (q := 4) d_J7_fill_d0a16_3 rfl ha0 (by decide) rfl ?_
  refine sm_istore (q := 6) (lt := [some (.ref a0), some (.long x1), none, some (.int (0 : Int32)), some (.int (Int32.ofNat n0))]) d_J7_fill_d0a16_4 rfl (Nat.le_of_ble_eq_true rfl) rfl rfl ?_
  exact j_J7_fill_d0a16_6 hx F a0 n0 ha0 F x1 (0 : Int32) (Int32.ofNat n0) M _ h
theorem c_J7_fill_d0a16 {base sk : List sm_Sh} (hx : sm_ext base sk) (F : Nat) (a0 n0 : Nat) (ha0 : sm_longs sk a0 n0) (x1 : Int64) (M : sm_M) (r : sm_M) (h : f_J7_fill_d0a16 F a0 n0 x1 M = some r) : sm_Ct yJ7_fill_d0a16 md_J7_fill_d0a16 0 sk [.ref a0, .long x1] M (.inl none) r := sm_enter 2 pn_J7 rfl (Nat.le_of_ble_eq_true rfl) rfl (j_J7_fill_d0a16 hx F a0 n0 ha0 x1 M r h)
