/-! ===== methods, decompiled: 11.row ===== -/
/-! UniversalCycles$Row.copyFrom(LUniversalCycles$Row;)V -/
theorem d_X7_copyFrom_0 : decode cX7_copyFrom 0 = .ok (.aload_n 1, 1) := by decide +kernel
theorem d_X7_copyFrom_1 : decode cX7_copyFrom 1 = .ok (.getfield 9, 3) := by decide +kernel
theorem d_X7_copyFrom_4 : decode cX7_copyFrom 4 = .ok (.iconst 0, 1) := by decide +kernel
theorem d_X7_copyFrom_5 : decode cX7_copyFrom 5 = .ok (.aload_n 0, 1) := by decide +kernel
theorem d_X7_copyFrom_6 : decode cX7_copyFrom 6 = .ok (.getfield 9, 3) := by decide +kernel
theorem d_X7_copyFrom_9 : decode cX7_copyFrom 9 = .ok (.iconst 0, 1) := by decide +kernel
theorem d_X7_copyFrom_10 : decode cX7_copyFrom 10 = .ok (.aload_n 0, 1) := by decide +kernel
theorem d_X7_copyFrom_11 : decode cX7_copyFrom 11 = .ok (.getfield 9, 3) := by decide +kernel
theorem d_X7_copyFrom_14 : decode cX7_copyFrom 14 = .ok (.arraylength, 1) := by decide +kernel
theorem d_X7_copyFrom_15 : decode cX7_copyFrom 15 = .ok (.invokestatic 15, 3) := by decide +kernel
theorem d_X7_copyFrom_18 : decode cX7_copyFrom 18 = .ok (.aload_n 0, 1) := by decide +kernel
theorem d_X7_copyFrom_19 : decode cX7_copyFrom 19 = .ok (.aload_n 1, 1) := by decide +kernel
theorem d_X7_copyFrom_20 : decode cX7_copyFrom 20 = .ok (.getfield 21, 3) := by decide +kernel
theorem d_X7_copyFrom_23 : decode cX7_copyFrom 23 = .ok (.putfield 21, 3) := by decide +kernel
theorem d_X7_copyFrom_26 : decode cX7_copyFrom 26 = .ok (.return_, 1) := by decide +kernel
def f_X7_copyFrom (F : Nat) (a0 : Nat) (a1 : Nat) (M : sm_M) : Option (sm_M) := sm_g (sm_cpb (0 : Int32) (0 : Int32) (240 : Int32) 240 240) (some (sm_mi (sm_mc M (a1 + 1) (a0 + 1) (0 : Int32).toNatClampNeg (0 : Int32).toNatClampNeg (240 : Int32).toNatClampNeg) a0 1 (((sm_mc M (a1 + 1) (a0 + 1) (0 : Int32).toNatClampNeg (0 : Int32).toNatClampNeg (240 : Int32).toNatClampNeg)).1 a1 1)))
set_option maxRecDepth 100000 in
set_option maxHeartbeats 4000000 in
theorem j_X7_copyFrom {sk : List sm_Sh} (hx : sm_ext skX sk) (F : Nat) (a0 : Nat) (a1 : Nat) (ha0 : sm_row sk a0) (ha1 : sm_row sk a1) : ∀ (M : sm_M) (r : sm_M), f_X7_copyFrom F a0 a1 M = some r → sm_J (md_X7_copyFrom, 1, sk, .inl none, r) 0 [some (.ref a0), some (.ref a1)] [] M := by
  intro   M r h
  unfold f_X7_copyFrom at h
  refine sm_aload_n (q := 1) d_X7_copyFrom_0 rfl rfl ?_
  refine sm_getr (q := 4) d_X7_copyFrom_1 rfl fl_X7_9 ha1.1 rfl ?_
  refine sm_iconst (q := 5) d_X7_copyFrom_4 rfl ci_0 ?_
  refine sm_aload_n (q := 6) d_X7_copyFrom_5 rfl rfl ?_
  refine sm_getr (q := 9) d_X7_copyFrom_6 rfl fl_X7_9 ha0.1 rfl ?_
  refine sm_iconst (q := 10) d_X7_copyFrom_9 rfl ci_0 ?_
  refine sm_aload_n (q := 11) d_X7_copyFrom_10 rfl rfl ?_
  refine sm_getr (q := 14) d_X7_copyFrom_11 rfl fl_X7_9 ha0.1 rfl ?_
  refine sm_arraylength (q := 15) d_X7_copyFrom_14 rfl ha0.2 (by decide) cz_240 ?_
  obtain ⟨g1, h⟩ := sm_gt h
  refine sm_copy (q := 18) d_X7_copyFrom_15 rfl lk_X7_15 ha1.2 ha0.2 (sm_cpb_of g1).1 (sm_cpb_of g1).2.1 (sm_cpb_of g1).2.2.1 (sm_cpb_of g1).2.2.2.1 (sm_cpb_of g1).2.2.2.2 (Nat.le_of_ble_eq_true rfl) (Nat.le_of_ble_eq_true rfl) ?_
  refine sm_aload_n (q := 19) d_X7_copyFrom_18 rfl rfl ?_
  refine sm_aload_n (q := 20) d_X7_copyFrom_19 rfl rfl ?_
  refine sm_geti (q := 23) d_X7_copyFrom_20 rfl fl_X7_21 ha1.1 rfl ?_
  refine sm_puti (q := 26) d_X7_copyFrom_23 rfl fw_X7_21 ha0.1 rfl rfl rfl ?_
  obtain rfl := Option.some.inj h
  exact sm_vret d_X7_copyFrom_26 rfl rfl rfl
theorem c_X7_copyFrom {sk : List sm_Sh} (hx : sm_ext skX sk) (F : Nat) (a0 : Nat) (a1 : Nat) (ha0 : sm_row sk a0) (ha1 : sm_row sk a1) (M : sm_M) (r : sm_M) (h : f_X7_copyFrom F a0 a1 M = some r) : sm_Ct yX7_copyFrom md_X7_copyFrom 1 sk [.ref a0, .ref a1] M (.inl none) r := sm_enter 0 pn_X7 rfl (Nat.le_of_ble_eq_true rfl) rfl (j_X7_copyFrom hx F a0 a1 ha0 ha1 M r h)
/-! UniversalCycles$History.remember(LUniversalCycles$Row;)LUniversalCycles$Row; -/
theorem d_X6_remember_0 : decode cX6_remember 0 = .ok (.aload_n 0, 1) := by decide +kernel
theorem d_X6_remember_1 : decode cX6_remember 1 = .ok (.aload_n 0, 1) := by decide +kernel
theorem d_X6_remember_2 : decode cX6_remember 2 = .ok (.getfield 18, 3) := by decide +kernel
theorem d_X6_remember_5 : decode cX6_remember 5 = .ok (.iconst 1, 1) := by decide +kernel
theorem d_X6_remember_6 : decode cX6_remember 6 = .ok (.iadd, 1) := by decide +kernel
theorem d_X6_remember_7 : decode cX6_remember 7 = .ok (.bipush 12, 2) := by decide +kernel
theorem d_X6_remember_9 : decode cX6_remember 9 = .ok (.if_icmp .ge 12, 3) := by decide +kernel
theorem d_X6_remember_12 : decode cX6_remember 12 = .ok (.aload_n 0, 1) := by decide +kernel
theorem d_X6_remember_13 : decode cX6_remember 13 = .ok (.getfield 18, 3) := by decide +kernel
theorem d_X6_remember_16 : decode cX6_remember 16 = .ok (.iconst 1, 1) := by decide +kernel
theorem d_X6_remember_17 : decode cX6_remember 17 = .ok (.iadd, 1) := by decide +kernel
theorem d_X6_remember_18 : decode cX6_remember 18 = .ok (.goto 4, 3) := by decide +kernel
theorem d_X6_remember_21 : decode cX6_remember 21 = .ok (.iconst 0, 1) := by decide +kernel
theorem d_X6_remember_22 : decode cX6_remember 22 = .ok (.putfield 18, 3) := by decide +kernel
theorem d_X6_remember_25 : decode cX6_remember 25 = .ok (.aload_n 0, 1) := by decide +kernel
theorem d_X6_remember_26 : decode cX6_remember 26 = .ok (.aload_n 0, 1) := by decide +kernel
theorem d_X6_remember_27 : decode cX6_remember 27 = .ok (.getfield 22, 3) := by decide +kernel
theorem d_X6_remember_30 : decode cX6_remember 30 = .ok (.iconst 1, 1) := by decide +kernel
theorem d_X6_remember_31 : decode cX6_remember 31 = .ok (.iadd, 1) := by decide +kernel
theorem d_X6_remember_32 : decode cX6_remember 32 = .ok (.bipush 12, 2) := by decide +kernel
theorem d_X6_remember_34 : decode cX6_remember 34 = .ok (.invokestatic 25, 3) := by decide +kernel
theorem d_X6_remember_37 : decode cX6_remember 37 = .ok (.putfield 22, 3) := by decide +kernel
theorem d_X6_remember_40 : decode cX6_remember 40 = .ok (.aload_n 0, 1) := by decide +kernel
theorem d_X6_remember_41 : decode cX6_remember 41 = .ok (.getfield 11, 3) := by decide +kernel
theorem d_X6_remember_44 : decode cX6_remember 44 = .ok (.aload_n 0, 1) := by decide +kernel
theorem d_X6_remember_45 : decode cX6_remember 45 = .ok (.getfield 18, 3) := by decide +kernel
theorem d_X6_remember_48 : decode cX6_remember 48 = .ok (.aaload, 1) := by decide +kernel
theorem d_X6_remember_49 : decode cX6_remember 49 = .ok (.aload_n 1, 1) := by decide +kernel
theorem d_X6_remember_50 : decode cX6_remember 50 = .ok (.invokevirtual 31, 3) := by decide +kernel
theorem d_X6_remember_53 : decode cX6_remember 53 = .ok (.aload_n 0, 1) := by decide +kernel
theorem d_X6_remember_54 : decode cX6_remember 54 = .ok (.getfield 11, 3) := by decide +kernel
theorem d_X6_remember_57 : decode cX6_remember 57 = .ok (.aload_n 0, 1) := by decide +kernel
theorem d_X6_remember_58 : decode cX6_remember 58 = .ok (.getfield 18, 3) := by decide +kernel
theorem d_X6_remember_61 : decode cX6_remember 61 = .ok (.aaload, 1) := by decide +kernel
theorem d_X6_remember_62 : decode cX6_remember 62 = .ok (.areturn, 1) := by decide +kernel
def f_X6_remember_22 (F : Nat) (a1 : Nat) (y1 : Int32) (M : sm_M) : Option (Nat × sm_M) := sm_g (sm_ib (((sm_mi (sm_mi M 26 1 y1) 26 2 (if (12 : Int32) < ((((sm_mi M 26 1 y1)).1 26 2) + (1 : Int32)) then (12 : Int32) else ((((sm_mi M 26 1 y1)).1 26 2) + (1 : Int32))))).1 26 1) 12) ((f_X7_copyFrom F (28 + 2 * (((sm_mi (sm_mi M 26 1 y1) 26 2 (if (12 : Int32) < ((((sm_mi M 26 1 y1)).1 26 2) + (1 : Int32)) then (12 : Int32) else ((((sm_mi M 26 1 y1)).1 26 2) + (1 : Int32))))).1 26 1).toNatClampNeg) a1 (sm_mi (sm_mi M 26 1 y1) 26 2 (if (12 : Int32) < ((((sm_mi M 26 1 y1)).1 26 2) + (1 : Int32)) then (12 : Int32) else ((((sm_mi M 26 1 y1)).1 26 2) + (1 : Int32))))).bind fun q2 => sm_g (sm_ib (q2.1 26 1) 12) (some ((28 + 2 * (q2.1 26 1).toNatClampNeg), q2)))
set_option maxRecDepth 100000 in
set_option maxHeartbeats 4000000 in
theorem j_X6_remember_22 {sk : List sm_Sh} (hx : sm_ext skX sk) (F : Nat) (a1 : Nat) (ha1 : sm_row sk a1) : ∀ (y1 : Int32) (M : sm_M) (r : Nat × sm_M), f_X6_remember_22 F a1 y1 M = some r → sm_J (md_X6_remember, 2, sk, .inl (some (.ref r.1)), r.2) 22 [some (.ref 26), some (.ref a1)] [.int y1, .ref 26] M := by
  intro y1  M r h
  unfold f_X6_remember_22 at h
  refine sm_puti (q := 25) d_X6_remember_22 rfl fw_X6_18 (hx sx_26) rfl rfl rfl ?_
  refine sm_aload_n (q := 26) d_X6_remember_25 rfl rfl ?_
  refine sm_aload_n (q := 27) d_X6_remember_26 rfl rfl ?_
  refine sm_geti (q := 30) d_X6_remember_27 rfl fl_X6_22 (hx sx_26) rfl ?_
  refine sm_iconst (q := 31) d_X6_remember_30 rfl ci_1 ?_
  refine sm_iadd (q := 32) d_X6_remember_31 rfl ?_
  refine sm_bipush (q := 34) d_X6_remember_32 rfl cb_12 ?_
  refine sm_mmin (q := 37) d_X6_remember_34 rfl lk_X6_25 (Nat.le_of_ble_eq_true rfl) (Nat.le_of_ble_eq_true rfl) ?_
  refine sm_puti (q := 40) d_X6_remember_37 rfl fw_X6_22 (hx sx_26) rfl rfl rfl ?_
  refine sm_aload_n (q := 41) d_X6_remember_40 rfl rfl ?_
  refine sm_getr (q := 44) d_X6_remember_41 rfl fl_X6_11 (hx sx_26) rfl ?_
  refine sm_aload_n (q := 45) d_X6_remember_44 rfl rfl ?_
  refine sm_geti (q := 48) d_X6_remember_45 rfl fl_X6_18 (hx sx_26) rfl ?_
  obtain ⟨g1, h⟩ := sm_gt h
  refine sm_aaload (q := 49) d_X6_remember_48 rfl (hx sx_27) (Or.inl rfl) (sm_ib_of g1) (sm_hist g1) ?_
  refine sm_aload_n (q := 50) d_X6_remember_49 rfl rfl ?_
  obtain ⟨q2, e2, h⟩ := sm_bd h
  refine sm_callV (q := 53) (d' := 1) [] [.ref a1] d_X6_remember_50 rfl lk_X6_31 (sm_hrow hx g1).1 rfl rfl rfl (Nat.le_of_ble_eq_true rfl) (Nat.le_of_ble_eq_true rfl) (c_X7_copyFrom hx F (28 + 2 * (((sm_mi (sm_mi M 26 1 y1) 26 2 (if (12 : Int32) < ((((sm_mi M 26 1 y1)).1 26 2) + (1 : Int32)) then (12 : Int32) else ((((sm_mi M 26 1 y1)).1 26 2) + (1 : Int32))))).1 26 1).toNatClampNeg) a1 (sm_hrow hx g1) ha1 (sm_mi (sm_mi M 26 1 y1) 26 2 (if (12 : Int32) < ((((sm_mi M 26 1 y1)).1 26 2) + (1 : Int32)) then (12 : Int32) else ((((sm_mi M 26 1 y1)).1 26 2) + (1 : Int32)))) _ e2) (st9 := []) rfl ?_
  refine sm_aload_n (q := 54) d_X6_remember_53 rfl rfl ?_
  refine sm_getr (q := 57) d_X6_remember_54 rfl fl_X6_11 (hx sx_26) rfl ?_
  refine sm_aload_n (q := 58) d_X6_remember_57 rfl rfl ?_
  refine sm_geti (q := 61) d_X6_remember_58 rfl fl_X6_18 (hx sx_26) rfl ?_
  obtain ⟨g3, h⟩ := sm_gt h
  refine sm_aaload (q := 62) d_X6_remember_61 rfl (hx sx_27) (Or.inl rfl) (sm_ib_of g3) (sm_hist g3) ?_
  obtain rfl := Option.some.inj h
  exact sm_aret d_X6_remember_62 rfl rfl rfl
def f_X6_remember (F : Nat) (a1 : Nat) (M : sm_M) : Option (Nat × sm_M) := if (12 : Int32) ≤ ((M.1 26 1) + (1 : Int32)) then (f_X6_remember_22 F a1 (0 : Int32) M) else (f_X6_remember_22 F a1 ((M.1 26 1) + (1 : Int32)) M)
set_option maxRecDepth 100000 in
set_option maxHeartbeats 4000000 in
theorem j_X6_remember {sk : List sm_Sh} (hx : sm_ext skX sk) (F : Nat) (a1 : Nat) (ha1 : sm_row sk a1) : ∀ (M : sm_M) (r : Nat × sm_M), f_X6_remember F a1 M = some r → sm_J (md_X6_remember, 2, sk, .inl (some (.ref r.1)), r.2) 0 [some (.ref 26), some (.ref a1)] [] M := by
  intro   M r h
  unfold f_X6_remember at h
  refine sm_aload_n (q := 1) d_X6_remember_0 rfl rfl ?_
  refine sm_aload_n (q := 2) d_X6_remember_1 rfl rfl ?_
  refine sm_geti (q := 5) d_X6_remember_2 rfl fl_X6_18 (hx sx_26) rfl ?_
  refine sm_iconst (q := 6) d_X6_remember_5 rfl ci_1 ?_
  refine sm_iadd (q := 7) d_X6_remember_6 rfl ?_
  refine sm_bipush (q := 9) d_X6_remember_7 rfl cb_12 ?_
  refine sm_icmp_ge (q := 12) (t := 21) d_X6_remember_9 rfl rfl (fun c1 => ?_) (fun c1 => ?_)
  · replace h := sm_it c1 h
    refine sm_iconst (q := 22) d_X6_remember_21 rfl ci_0 ?_
    exact j_X6_remember_22 hx F a1 ha1 (0 : Int32) M _ h
  · replace h := sm_if c1 h
    refine sm_aload_n (q := 13) d_X6_remember_12 rfl rfl ?_
    refine sm_geti (q := 16) d_X6_remember_13 rfl fl_X6_18 (hx sx_26) rfl ?_
    refine sm_iconst (q := 17) d_X6_remember_16 rfl ci_1 ?_
    refine sm_iadd (q := 18) d_X6_remember_17 rfl ?_
    refine sm_goto (t := 22) d_X6_remember_18 rfl ?_
    exact j_X6_remember_22 hx F a1 ha1 ((M.1 26 1) + (1 : Int32)) M _ h
theorem c_X6_remember {sk : List sm_Sh} (hx : sm_ext skX sk) (F : Nat) (a1 : Nat) (ha1 : sm_row sk a1) (M : sm_M) (r : Nat × sm_M) (h : f_X6_remember F a1 M = some r) : sm_Ct yX6_remember md_X6_remember 2 sk [.ref 26, .ref a1] M (.inl (some (.ref r.1))) r.2 := sm_enter 0 pn_X6 rfl (Nat.le_of_ble_eq_true rfl) rfl (j_X6_remember hx F a1 ha1 M r h)
theorem rw_X6_remember {sk : List sm_Sh} (hx : sm_ext skX sk) {F a1 : Nat} {M : sm_M} {r : Nat × sm_M} (h : f_X6_remember F a1 M = some r) : sm_row sk r.1 := by
  have key : ∀ y, f_X6_remember_22 F a1 y M = some r → sm_row sk r.1 := by
    intro y h
    unfold f_X6_remember_22 at h
    obtain ⟨-, h⟩ := sm_gt h
    obtain ⟨q, -, h⟩ := sm_bd h
    obtain ⟨g, h⟩ := sm_gt h
    cases h
    exact sm_hrow hx g
  unfold f_X6_remember at h
  split at h
  · exact key _ h
  · exact key _ h
/-! UniversalCycles$Row.push(I)V -/
theorem d_X7_push_0 : decode cX7_push 0 = .ok (.aload_n 0, 1) := by decide +kernel
theorem d_X7_push_1 : decode cX7_push 1 = .ok (.getfield 21, 3) := by decide +kernel
theorem d_X7_push_4 : decode cX7_push 4 = .ok (.aload_n 0, 1) := by decide +kernel
theorem d_X7_push_5 : decode cX7_push 5 = .ok (.getfield 9, 3) := by decide +kernel
theorem d_X7_push_8 : decode cX7_push 8 = .ok (.arraylength, 1) := by decide +kernel
theorem d_X7_push_9 : decode cX7_push 9 = .ok (.if_icmp .ge 23, 3) := by decide +kernel
theorem d_X7_push_12 : decode cX7_push 12 = .ok (.aload_n 0, 1) := by decide +kernel
theorem d_X7_push_13 : decode cX7_push 13 = .ok (.getfield 9, 3) := by decide +kernel
theorem d_X7_push_16 : decode cX7_push 16 = .ok (.aload_n 0, 1) := by decide +kernel
theorem d_X7_push_17 : decode cX7_push 17 = .ok (.getfield 21, 3) := by decide +kernel
theorem d_X7_push_20 : decode cX7_push 20 = .ok (.iload_n 1, 1) := by decide +kernel
theorem d_X7_push_21 : decode cX7_push 21 = .ok (.iastore, 1) := by decide +kernel
theorem d_X7_push_22 : decode cX7_push 22 = .ok (.aload_n 0, 1) := by decide +kernel
theorem d_X7_push_23 : decode cX7_push 23 = .ok (.dup, 1) := by decide +kernel
theorem d_X7_push_24 : decode cX7_push 24 = .ok (.getfield 21, 3) := by decide +kernel
theorem d_X7_push_27 : decode cX7_push 27 = .ok (.iconst 1, 1) := by decide +kernel
theorem d_X7_push_28 : decode cX7_push 28 = .ok (.iadd, 1) := by decide +kernel
theorem d_X7_push_29 : decode cX7_push 29 = .ok (.putfield 21, 3) := by decide +kernel
theorem d_X7_push_32 : decode cX7_push 32 = .ok (.return_, 1) := by decide +kernel
def f_X7_push_32 (F : Nat) (a0 : Nat) (M : sm_M) : Option (sm_M) := some M
set_option maxRecDepth 100000 in
set_option maxHeartbeats 4000000 in
theorem j_X7_push_32 {sk : List sm_Sh} (hx : sm_ext skX sk) (F : Nat) (a0 : Nat) (ha0 : sm_row sk a0) : ∀ (M : sm_M) (r : sm_M), f_X7_push_32 F a0 M = some r → sm_J (md_X7_push, 0, sk, .inl none, r) 32 [none, none] [] M := by
  intro   M r h
  unfold f_X7_push_32 at h
  obtain rfl := Option.some.inj h
  exact sm_vret d_X7_push_32 rfl rfl rfl
def f_X7_push (F : Nat) (a0 : Nat) (x1 : Int32) (M : sm_M) : Option (sm_M) := if (240 : Int32) ≤ (M.1 a0 1) then (f_X7_push_32 F a0 M) else (sm_g (sm_ib (M.1 a0 1) 240) (f_X7_push_32 F a0 ((sm_mi (sm_mi M (a0 + 1) (M.1 a0 1).toNatClampNeg x1) a0 1 ((((sm_mi M (a0 + 1) (M.1 a0 1).toNatClampNeg x1)).1 a0 1) + (1 : Int32))))))
set_option maxRecDepth 100000 in
set_option maxHeartbeats 4000000 in
theorem j_X7_push {sk : List sm_Sh} (hx : sm_ext skX sk) (F : Nat) (a0 : Nat) (ha0 : sm_row sk a0) : ∀ (x1 : Int32) (M : sm_M) (r : sm_M), f_X7_push F a0 x1 M = some r → sm_J (md_X7_push, 0, sk, .inl none, r) 0 [some (.ref a0), some (.int x1)] [] M := by
  intro x1  M r h
  unfold f_X7_push at h
  refine sm_aload_n (q := 1) d_X7_push_0 rfl rfl ?_
  refine sm_geti (q := 4) d_X7_push_1 rfl fl_X7_21 ha0.1 rfl ?_
  refine sm_aload_n (q := 5) d_X7_push_4 rfl rfl ?_
  refine sm_getr (q := 8) d_X7_push_5 rfl fl_X7_9 ha0.1 rfl ?_
  refine sm_arraylength (q := 9) d_X7_push_8 rfl ha0.2 (by decide) cz_240 ?_
  refine sm_icmp_ge (q := 12) (t := 32) d_X7_push_9 rfl rfl (fun c1 => ?_) (fun c1 => ?_)
  · replace h := sm_it c1 h
    refine sm_fg [0, 1] ?_
    exact j_X7_push_32 hx F a0 ha0 M _ h
  · replace h := sm_if c1 h
    refine sm_aload_n (q := 13) d_X7_push_12 rfl rfl ?_
    refine sm_getr (q := 16) d_X7_push_13 rfl fl_X7_9 ha0.1 rfl ?_
    refine sm_aload_n (q := 17) d_X7_push_16 rfl rfl ?_
    refine sm_geti (q := 20) d_X7_push_17 rfl fl_X7_21 ha0.1 rfl ?_
    refine sm_iload_n (q := 21) d_X7_push_20 rfl rfl ?_
    obtain ⟨g2, h⟩ := sm_gt h
    refine sm_iastore (q := 22) d_X7_push_21 rfl ha0.2 (sm_ib_of g2) ?_
    refine sm_aload_n (q := 23) d_X7_push_22 rfl rfl ?_
    refine sm_dup (q := 24) d_X7_push_23 rfl rfl ?_
    refine sm_geti (q := 27) d_X7_push_24 rfl fl_X7_21 ha0.1 rfl ?_
    refine sm_iconst (q := 28) d_X7_push_27 rfl ci_1 ?_
    refine sm_iadd (q := 29) d_X7_push_28 rfl ?_
    refine sm_puti (q := 32) d_X7_push_29 rfl fw_X7_21 ha0.1 rfl rfl rfl ?_
    refine sm_fg [0, 1] ?_
    exact j_X7_push_32 hx F a0 ha0 ((sm_mi (sm_mi M (a0 + 1) (M.1 a0 1).toNatClampNeg x1) a0 1 ((((sm_mi M (a0 + 1) (M.1 a0 1).toNatClampNeg x1)).1 a0 1) + (1 : Int32)))) _ h
theorem c_X7_push {sk : List sm_Sh} (hx : sm_ext skX sk) (F : Nat) (a0 : Nat) (ha0 : sm_row sk a0) (x1 : Int32) (M : sm_M) (r : sm_M) (h : f_X7_push F a0 x1 M = some r) : sm_Ct yX7_push md_X7_push 0 sk [.ref a0, .int x1] M (.inl none) r := sm_enter 0 pn_X7 rfl (Nat.le_of_ble_eq_true rfl) rfl (j_X7_push hx F a0 ha0 x1 M r h)
/-! UniversalCycles$History.takeInto(LUniversalCycles$Row;)V -/
theorem d_X6_takeInto_0 : decode cX6_takeInto 0 = .ok (.aload_n 1, 1) := by decide +kernel
theorem d_X6_takeInto_1 : decode cX6_takeInto 1 = .ok (.aload_n 0, 1) := by decide +kernel
theorem d_X6_takeInto_2 : decode cX6_takeInto 2 = .ok (.getfield 11, 3) := by decide +kernel
theorem d_X6_takeInto_5 : decode cX6_takeInto 5 = .ok (.aload_n 0, 1) := by decide +kernel
theorem d_X6_takeInto_6 : decode cX6_takeInto 6 = .ok (.getfield 18, 3) := by decide +kernel
theorem d_X6_takeInto_9 : decode cX6_takeInto 9 = .ok (.aaload, 1) := by decide +kernel
theorem d_X6_takeInto_10 : decode cX6_takeInto 10 = .ok (.invokevirtual 31, 3) := by decide +kernel
theorem d_X6_takeInto_13 : decode cX6_takeInto 13 = .ok (.aload_n 0, 1) := by decide +kernel
theorem d_X6_takeInto_14 : decode cX6_takeInto 14 = .ok (.aload_n 0, 1) := by decide +kernel
theorem d_X6_takeInto_15 : decode cX6_takeInto 15 = .ok (.getfield 18, 3) := by decide +kernel
theorem d_X6_takeInto_18 : decode cX6_takeInto 18 = .ok (.ifCond .le 12, 3) := by decide +kernel
theorem d_X6_takeInto_21 : decode cX6_takeInto 21 = .ok (.aload_n 0, 1) := by decide +kernel
theorem d_X6_takeInto_22 : decode cX6_takeInto 22 = .ok (.getfield 18, 3) := by decide +kernel
theorem d_X6_takeInto_25 : decode cX6_takeInto 25 = .ok (.iconst 1, 1) := by decide +kernel
theorem d_X6_takeInto_26 : decode cX6_takeInto 26 = .ok (.isub, 1) := by decide +kernel
theorem d_X6_takeInto_27 : decode cX6_takeInto 27 = .ok (.goto 5, 3) := by decide +kernel
theorem d_X6_takeInto_30 : decode cX6_takeInto 30 = .ok (.bipush 11, 2) := by decide +kernel
theorem d_X6_takeInto_32 : decode cX6_takeInto 32 = .ok (.putfield 18, 3) := by decide +kernel
theorem d_X6_takeInto_35 : decode cX6_takeInto 35 = .ok (.aload_n 0, 1) := by decide +kernel
theorem d_X6_takeInto_36 : decode cX6_takeInto 36 = .ok (.dup, 1) := by decide +kernel
theorem d_X6_takeInto_37 : decode cX6_takeInto 37 = .ok (.getfield 22, 3) := by decide +kernel
theorem d_X6_takeInto_40 : decode cX6_takeInto 40 = .ok (.iconst 1, 1) := by decide +kernel
theorem d_X6_takeInto_41 : decode cX6_takeInto 41 = .ok (.isub, 1) := by decide +kernel
theorem d_X6_takeInto_42 : decode cX6_takeInto 42 = .ok (.putfield 22, 3) := by decide +kernel
theorem d_X6_takeInto_45 : decode cX6_takeInto 45 = .ok (.return_, 1) := by decide +kernel
def f_X6_takeInto_32 (F : Nat) (a1 : Nat) (y1 : Int32) (M : sm_M) : Option (sm_M) := some (sm_mi (sm_mi M 26 1 y1) 26 2 ((((sm_mi M 26 1 y1)).1 26 2) - (1 : Int32)))
set_option maxRecDepth 100000 in
set_option maxHeartbeats 4000000 in
theorem j_X6_takeInto_32 {sk : List sm_Sh} (hx : sm_ext skX sk) (F : Nat) (a1 : Nat) (ha1 : sm_row sk a1) : ∀ (y1 : Int32) (M : sm_M) (r : sm_M), f_X6_takeInto_32 F a1 y1 M = some r → sm_J (md_X6_takeInto, 2, sk, .inl none, r) 32 [some (.ref 26), none] [.int y1, .ref 26] M := by
  intro y1  M r h
  unfold f_X6_takeInto_32 at h
  refine sm_puti (q := 35) d_X6_takeInto_32 rfl fw_X6_18 (hx sx_26) rfl rfl rfl ?_
  refine sm_aload_n (q := 36) d_X6_takeInto_35 rfl rfl ?_
  refine sm_dup (q := 37) d_X6_takeInto_36 rfl rfl ?_
  refine sm_geti (q := 40) d_X6_takeInto_37 rfl fl_X6_22 (hx sx_26) rfl ?_
  refine sm_iconst (q := 41) d_X6_takeInto_40 rfl ci_1 ?_
  refine sm_isub (q := 42) d_X6_takeInto_41 rfl ?_
  refine sm_puti (q := 45) d_X6_takeInto_42 rfl fw_X6_22 (hx sx_26) rfl rfl rfl ?_
  obtain rfl := Option.some.inj h
  exact sm_vret d_X6_takeInto_45 rfl rfl rfl
def f_X6_takeInto (F : Nat) (a1 : Nat) (M : sm_M) : Option (sm_M) := sm_g (sm_ib (M.1 26 1) 12) ((f_X7_copyFrom F a1 (28 + 2 * (M.1 26 1).toNatClampNeg) M).bind fun q2 => if (q2.1 26 1) ≤ 0 then (f_X6_takeInto_32 F a1 (11 : Int32) q2) else (f_X6_takeInto_32 F a1 ((q2.1 26 1) - (1 : Int32)) q2))
set_option maxRecDepth 100000 in
set_option maxHeartbeats 4000000 in
theorem j_X6_takeInto {sk : List sm_Sh} (hx : sm_ext skX sk) (F : Nat) (a1 : Nat) (ha1 : sm_row sk a1) : ∀ (M : sm_M) (r : sm_M), f_X6_takeInto F a1 M = some r → sm_J (md_X6_takeInto, 2, sk, .inl none, r) 0 [some (.ref 26), some (.ref a1)] [] M := by
  intro   M r h
  unfold f_X6_takeInto at h
  refine sm_aload_n (q := 1) d_X6_takeInto_0 rfl rfl ?_
  refine sm_aload_n (q := 2) d_X6_takeInto_1 rfl rfl ?_
  refine sm_getr (q := 5) d_X6_takeInto_2 rfl fl_X6_11 (hx sx_26) rfl ?_
  refine sm_aload_n (q := 6) d_X6_takeInto_5 rfl rfl ?_
  refine sm_geti (q := 9) d_X6_takeInto_6 rfl fl_X6_18 (hx sx_26) rfl ?_
  obtain ⟨g1, h⟩ := sm_gt h
  refine sm_aaload (q := 10) d_X6_takeInto_9 rfl (hx sx_27) (Or.inl rfl) (sm_ib_of g1) (sm_hist g1) ?_
  obtain ⟨q2, e2, h⟩ := sm_bd h
  refine sm_callV (q := 13) (d' := 1) [] [.ref (28 + 2 * (M.1 26 1).toNatClampNeg)] d_X6_takeInto_10 rfl lk_X6_31 ha1.1 rfl rfl rfl (Nat.le_of_ble_eq_true rfl) (Nat.le_of_ble_eq_true rfl) (c_X7_copyFrom hx F a1 (28 + 2 * (M.1 26 1).toNatClampNeg) ha1 (sm_hrow hx g1) M _ e2) (st9 := []) rfl ?_
  refine sm_aload_n (q := 14) d_X6_takeInto_13 rfl rfl ?_
  refine sm_aload_n (q := 15) d_X6_takeInto_14 rfl rfl ?_
  refine sm_geti (q := 18) d_X6_takeInto_15 rfl fl_X6_18 (hx sx_26) rfl ?_
  refine sm_if_le (q := 21) (t := 30) d_X6_takeInto_18 rfl rfl (fun c3 => ?_) (fun c3 => ?_)
  · replace h := sm_it c3 h
    refine sm_bipush (q := 32) d_X6_takeInto_30 rfl cb_11 ?_
    refine sm_fg [1] ?_
    exact j_X6_takeInto_32 hx F a1 ha1 (11 : Int32) q2 _ h
  · replace h := sm_if c3 h
    refine sm_aload_n (q := 22) d_X6_takeInto_21 rfl rfl ?_
    refine sm_geti (q := 25) d_X6_takeInto_22 rfl fl_X6_18 (hx sx_26) rfl ?_
    refine sm_iconst (q := 26) d_X6_takeInto_25 rfl ci_1 ?_
    refine sm_isub (q := 27) d_X6_takeInto_26 rfl ?_
    refine sm_goto (t := 32) d_X6_takeInto_27 rfl ?_
    refine sm_fg [1] ?_
    exact j_X6_takeInto_32 hx F a1 ha1 ((q2.1 26 1) - (1 : Int32)) q2 _ h
theorem c_X6_takeInto {sk : List sm_Sh} (hx : sm_ext skX sk) (F : Nat) (a1 : Nat) (ha1 : sm_row sk a1) (M : sm_M) (r : sm_M) (h : f_X6_takeInto F a1 M = some r) : sm_Ct yX6_takeInto md_X6_takeInto 2 sk [.ref 26, .ref a1] M (.inl none) r := sm_enter 0 pn_X6 rfl (Nat.le_of_ble_eq_true rfl) rfl (j_X6_takeInto hx F a1 ha1 M r h)
/-! UniversalCycles$Row.cyclicSymbol(I)I -/
theorem d_X7_cyclicSymbol_0 : decode cX7_cyclicSymbol 0 = .ok (.iload_n 1, 1) := by decide +kernel
theorem d_X7_cyclicSymbol_1 : decode cX7_cyclicSymbol 1 = .ok (.ifCond .lt 10, 3) := by decide +kernel
theorem d_X7_cyclicSymbol_4 : decode cX7_cyclicSymbol 4 = .ok (.aload_n 0, 1) := by decide +kernel
theorem d_X7_cyclicSymbol_5 : decode cX7_cyclicSymbol 5 = .ok (.getfield 21, 3) := by decide +kernel
theorem d_X7_cyclicSymbol_8 : decode cX7_cyclicSymbol 8 = .ok (.ifCond .gt 5, 3) := by decide +kernel
theorem d_X7_cyclicSymbol_11 : decode cX7_cyclicSymbol 11 = .ok (.iconst 0, 1) := by decide +kernel
theorem d_X7_cyclicSymbol_12 : decode cX7_cyclicSymbol 12 = .ok (.ireturn, 1) := by decide +kernel
theorem d_X7_cyclicSymbol_13 : decode cX7_cyclicSymbol 13 = .ok (.aload_n 0, 1) := by decide +kernel
theorem d_X7_cyclicSymbol_14 : decode cX7_cyclicSymbol 14 = .ok (.getfield 9, 3) := by decide +kernel
theorem d_X7_cyclicSymbol_17 : decode cX7_cyclicSymbol 17 = .ok (.iload_n 1, 1) := by decide +kernel
theorem d_X7_cyclicSymbol_18 : decode cX7_cyclicSymbol 18 = .ok (.aload_n 0, 1) := by decide +kernel
theorem d_X7_cyclicSymbol_19 : decode cX7_cyclicSymbol 19 = .ok (.getfield 21, 3) := by decide +kernel
theorem d_X7_cyclicSymbol_22 : decode cX7_cyclicSymbol 22 = .ok (.irem, 1) := by decide +kernel
theorem d_X7_cyclicSymbol_23 : decode cX7_cyclicSymbol 23 = .ok (.iaload, 1) := by decide +kernel
theorem d_X7_cyclicSymbol_24 : decode cX7_cyclicSymbol 24 = .ok (.ireturn, 1) := by decide +kernel
def f_X7_cyclicSymbol_11 (F : Nat) (a0 : Nat) (M : sm_M) : Option (Int32) := some (0 : Int32)
set_option maxRecDepth 100000 in
set_option maxHeartbeats 4000000 in
theorem j_X7_cyclicSymbol_11 {sk : List sm_Sh} (hx : sm_ext skX sk) (F : Nat) (a0 : Nat) (ha0 : sm_row sk a0) : ∀ (M : sm_M) (r : Int32), f_X7_cyclicSymbol_11 F a0 M = some r → sm_J (md_X7_cyclicSymbol, 0, sk, .inl (some (.int r)), M) 11 [none, none] [] M := by
  intro   M r h
  unfold f_X7_cyclicSymbol_11 at h
  refine sm_iconst (q := 12) d_X7_cyclicSymbol_11 rfl ci_0 ?_
  obtain rfl := Option.some.inj h
  exact sm_iret d_X7_cyclicSymbol_12 rfl rfl rfl rfl
def f_X7_cyclicSymbol (F : Nat) (a0 : Nat) (x1 : Int32) (M : sm_M) : Option (Int32) := if x1 < 0 then (f_X7_cyclicSymbol_11 F a0 M) else (if 0 < (M.1 a0 1) then (sm_g (sm_nz (M.1 a0 1)) (sm_g (sm_ib (x1 - x1 / (M.1 a0 1) * (M.1 a0 1)) 240) (some (M.1 (a0 + 1) (x1 - x1 / (M.1 a0 1) * (M.1 a0 1)).toNatClampNeg)))) else (f_X7_cyclicSymbol_11 F a0 M))
set_option maxRecDepth 100000 in
set_option maxHeartbeats 4000000 in
theorem j_X7_cyclicSymbol {sk : List sm_Sh} (hx : sm_ext skX sk) (F : Nat) (a0 : Nat) (ha0 : sm_row sk a0) : ∀ (x1 : Int32) (M : sm_M) (r : Int32), f_X7_cyclicSymbol F a0 x1 M = some r → sm_J (md_X7_cyclicSymbol, 0, sk, .inl (some (.int r)), M) 0 [some (.ref a0), some (.int x1)] [] M := by
  intro x1  M r h
  unfold f_X7_cyclicSymbol at h
  refine sm_iload_n (q := 1) d_X7_cyclicSymbol_0 rfl rfl ?_
  refine sm_if_lt (q := 4) (t := 11) d_X7_cyclicSymbol_1 rfl rfl (fun c1 => ?_) (fun c1 => ?_)
  · replace h := sm_it c1 h
    refine sm_fg [0, 1] ?_
    exact j_X7_cyclicSymbol_11 hx F a0 ha0 M _ h
  · replace h := sm_if c1 h
    refine sm_aload_n (q := 5) d_X7_cyclicSymbol_4 rfl rfl ?_
    refine sm_geti (q := 8) d_X7_cyclicSymbol_5 rfl fl_X7_21 ha0.1 rfl ?_
    refine sm_if_gt (q := 11) (t := 13) d_X7_cyclicSymbol_8 rfl rfl (fun c2 => ?_) (fun c2 => ?_)
    · replace h := sm_it c2 h
      refine sm_aload_n (q := 14) d_X7_cyclicSymbol_13 rfl rfl ?_
      refine sm_getr (q := 17) d_X7_cyclicSymbol_14 rfl fl_X7_9 ha0.1 rfl ?_
      refine sm_iload_n (q := 18) d_X7_cyclicSymbol_17 rfl rfl ?_
      refine sm_aload_n (q := 19) d_X7_cyclicSymbol_18 rfl rfl ?_
      refine sm_geti (q := 22) d_X7_cyclicSymbol_19 rfl fl_X7_21 ha0.1 rfl ?_
      obtain ⟨g3, h⟩ := sm_gt h
      refine sm_irem (q := 23) d_X7_cyclicSymbol_22 rfl (sm_nz_of g3) ?_
      obtain ⟨g4, h⟩ := sm_gt h
      refine sm_iaload (q := 24) d_X7_cyclicSymbol_23 rfl ha0.2 (sm_ib_of g4) ?_
      obtain rfl := Option.some.inj h
      exact sm_iret d_X7_cyclicSymbol_24 rfl rfl rfl rfl
    · replace h := sm_if c2 h
      refine sm_fg [0, 1] ?_
      exact j_X7_cyclicSymbol_11 hx F a0 ha0 M _ h
theorem c_X7_cyclicSymbol {sk : List sm_Sh} (hx : sm_ext skX sk) (F : Nat) (a0 : Nat) (ha0 : sm_row sk a0) (x1 : Int32) (M : sm_M) (r : Int32) (h : f_X7_cyclicSymbol F a0 x1 M = some r) : sm_Ct yX7_cyclicSymbol md_X7_cyclicSymbol 0 sk [.ref a0, .int x1] M (.inl (some (.int r))) M := sm_enter 0 pn_X7 rfl (Nat.le_of_ble_eq_true rfl) rfl (j_X7_cyclicSymbol hx F a0 ha0 x1 M r h)
/-! UniversalCycles$Row.symbolMask()I -/
theorem d_X7_symbolMask_0 : decode cX7_symbolMask 0 = .ok (.iconst 0, 1) := by decide +kernel
theorem d_X7_symbolMask_1 : decode cX7_symbolMask 1 = .ok (.istore_n 1, 1) := by decide +kernel
theorem d_X7_symbolMask_2 : decode cX7_symbolMask 2 = .ok (.iconst 0, 1) := by decide +kernel
theorem d_X7_symbolMask_3 : decode cX7_symbolMask 3 = .ok (.istore_n 2, 1) := by decide +kernel
theorem d_X7_symbolMask_4 : decode cX7_symbolMask 4 = .ok (.iload_n 2, 1) := by decide +kernel
theorem d_X7_symbolMask_5 : decode cX7_symbolMask 5 = .ok (.aload_n 0, 1) := by decide +kernel
theorem d_X7_symbolMask_6 : decode cX7_symbolMask 6 = .ok (.getfield 21, 3) := by decide +kernel
theorem d_X7_symbolMask_9 : decode cX7_symbolMask 9 = .ok (.if_icmp .ge 20, 3) := by decide +kernel
theorem d_X7_symbolMask_12 : decode cX7_symbolMask 12 = .ok (.iload_n 1, 1) := by decide +kernel
theorem d_X7_symbolMask_13 : decode cX7_symbolMask 13 = .ok (.iconst 1, 1) := by decide +kernel
theorem d_X7_symbolMask_14 : decode cX7_symbolMask 14 = .ok (.aload_n 0, 1) := by decide +kernel
theorem d_X7_symbolMask_15 : decode cX7_symbolMask 15 = .ok (.getfield 9, 3) := by decide +kernel
theorem d_X7_symbolMask_18 : decode cX7_symbolMask 18 = .ok (.iload_n 2, 1) := by decide +kernel
theorem d_X7_symbolMask_19 : decode cX7_symbolMask 19 = .ok (.iaload, 1) := by decide +kernel
theorem d_X7_symbolMask_20 : decode cX7_symbolMask 20 = .ok (.ishl, 1) := by decide +kernel
theorem d_X7_symbolMask_21 : decode cX7_symbolMask 21 = .ok (.ior, 1) := by decide +kernel
theorem d_X7_symbolMask_22 : decode cX7_symbolMask 22 = .ok (.istore_n 1, 1) := by decide +kernel
theorem d_X7_symbolMask_23 : decode cX7_symbolMask 23 = .ok (.iinc 2 1, 3) := by decide +kernel
theorem d_X7_symbolMask_26 : decode cX7_symbolMask 26 = .ok (.goto (-22), 3) := by decide +kernel
theorem d_X7_symbolMask_29 : decode cX7_symbolMask 29 = .ok (.iload_n 1, 1) := by decide +kernel
theorem d_X7_symbolMask_30 : decode cX7_symbolMask 30 = .ok (.ireturn, 1) := by decide +kernel
def f_X7_symbolMask_4b (F : Nat) (a0 : Nat) (kb4 : Int32 → Int32 → sm_M → Option (Int32)) (x1 : Int32) (x2 : Int32) (M : sm_M) : Option (Int32) := if (M.1 a0 1) ≤ x2 then (some x1) else (sm_g (sm_ib x2 240) (kb4 (x1 ||| ((1 : Int32) <<< ((M.1 (a0 + 1) x2.toNatClampNeg) &&& 31))) (x2 + 1) M))
set_option maxRecDepth 100000 in
set_option maxHeartbeats 4000000 in
theorem j_X7_symbolMask_4b {sk : List sm_Sh} (hx : sm_ext skX sk) (F : Nat) (a0 : Nat) (ha0 : sm_row sk a0) (kb4 : Int32 → Int32 → sm_M → Option (Int32)) (hkb4 : ∀ (x1 : Int32) (x2 : Int32) (M : sm_M) (r : Int32), kb4 x1 x2 M = some r → sm_J (md_X7_symbolMask, 0, sk, .inl (some (.int r)), M) 4 [some (.ref a0), some (.int x1), some (.int x2)] [] M) : ∀ (x1 : Int32) (x2 : Int32) (M : sm_M) (r : Int32), f_X7_symbolMask_4b F a0 kb4 x1 x2 M = some r → sm_J (md_X7_symbolMask, 0, sk, .inl (some (.int r)), M) 4 [some (.ref a0), some (.int x1), some (.int x2)] [] M := by
  intro x1 x2  M r h
  unfold f_X7_symbolMask_4b at h
  refine sm_iload_n (q := 5) d_X7_symbolMask_4 rfl rfl ?_
  refine sm_aload_n (q := 6) d_X7_symbolMask_5 rfl rfl ?_
  refine sm_geti (q := 9) d_X7_symbolMask_6 rfl fl_X7_21 ha0.1 rfl ?_
  refine sm_icmp_ge (q := 12) (t := 29) d_X7_symbolMask_9 rfl rfl (fun c1 => ?_) (fun c1 => ?_)
  · replace h := sm_it c1 h
    refine sm_iload_n (q := 30) d_X7_symbolMask_29 rfl rfl ?_
    obtain rfl := Option.some.inj h
    exact sm_iret d_X7_symbolMask_30 rfl rfl rfl rfl
  · replace h := sm_if c1 h
    refine sm_iload_n (q := 13) d_X7_symbolMask_12 rfl rfl ?_
    refine sm_iconst (q := 14) d_X7_symbolMask_13 rfl ci_1 ?_
    refine sm_aload_n (q := 15) d_X7_symbolMask_14 rfl rfl ?_
    refine sm_getr (q := 18) d_X7_symbolMask_15 rfl fl_X7_9 ha0.1 rfl ?_
    refine sm_iload_n (q := 19) d_X7_symbolMask_18 rfl rfl ?_
    obtain ⟨g2, h⟩ := sm_gt h
    refine sm_iaload (q := 20) d_X7_symbolMask_19 rfl ha0.2 (sm_ib_of g2) ?_
    refine sm_ishl (q := 21) d_X7_symbolMask_20 rfl ?_
    refine sm_ior (q := 22) d_X7_symbolMask_21 rfl ?_
    refine sm_istore_n (q := 23) (lt := [some (.ref a0), some (.int (x1 ||| ((1 : Int32) <<< ((M.1 (a0 + 1) x2.toNatClampNeg) &&& 31)))), some (.int x2)]) d_X7_symbolMask_22 rfl (Nat.le_of_ble_eq_true rfl) rfl rfl ?_
    refine sm_iinc (q := 26) (v := (x2 + 1)) (lt := [some (.ref a0), some (.int (x1 ||| ((1 : Int32) <<< ((M.1 (a0 + 1) x2.toNatClampNeg) &&& 31)))), some (.int (x2 + 1))]) d_X7_symbolMask_23 rfl rfl (ii_1 _) (Nat.le_of_ble_eq_true rfl) rfl rfl ?_
    refine sm_goto (t := 4) d_X7_symbolMask_26 rfl ?_
    exact hkb4 (x1 ||| ((1 : Int32) <<< ((M.1 (a0 + 1) x2.toNatClampNeg) &&& 31))) (x2 + 1) M _ h
def f_X7_symbolMask_4 (F : Nat) (a0 : Nat) (n : Nat) : Int32 → Int32 → sm_M → Option (Int32) := match n with
 | 0 => fun _ _ _ => none
 | n + 1 => f_X7_symbolMask_4b F a0 (f_X7_symbolMask_4 F a0 n)
theorem j_X7_symbolMask_4 {sk : List sm_Sh} (hx : sm_ext skX sk) (F : Nat) (a0 : Nat) (ha0 : sm_row sk a0) : ∀ (n : Nat) (x1 : Int32) (x2 : Int32) (M : sm_M) (r : Int32), f_X7_symbolMask_4 F a0 n x1 x2 M = some r → sm_J (md_X7_symbolMask, 0, sk, .inl (some (.int r)), M) 4 [some (.ref a0), some (.int x1), some (.int x2)] [] M := by
  intro n
  induction n with
  | zero => intro x1 x2  M r h; exact nomatch (show (none : Option (Int32)) = some r from h)
  | succ n ih => exact j_X7_symbolMask_4b hx F a0 ha0 (f_X7_symbolMask_4 F a0 n) ih
def f_X7_symbolMask (F : Nat) (a0 : Nat) (M : sm_M) : Option (Int32) := f_X7_symbolMask_4 F a0 F (0 : Int32) (0 : Int32) M
set_option maxRecDepth 100000 in
set_option maxHeartbeats 4000000 in
theorem j_X7_symbolMask {sk : List sm_Sh} (hx : sm_ext skX sk) (F : Nat) (a0 : Nat) (ha0 : sm_row sk a0) : ∀ (M : sm_M) (r : Int32), f_X7_symbolMask F a0 M = some r → sm_J (md_X7_symbolMask, 0, sk, .inl (some (.int r)), M) 0 [some (.ref a0), none, none] [] M := by
  intro   M r h
  unfold f_X7_symbolMask at h
  refine sm_iconst (q := 1) d_X7_symbolMask_0 rfl ci_0 ?_
  refine sm_istore_n (q := 2) (lt := [some (.ref a0), some (.int (0 : Int32)), none]) d_X7_symbolMask_1 rfl (Nat.le_of_ble_eq_true rfl) rfl rfl ?_
  refine sm_iconst (q := 3) d_X7_symbolMask_2 rfl ci_0 ?_
  refine sm_istore_n (q := 4) (lt := [some (.ref a0), some (.int (0 : Int32)), some (.int (0 : Int32))]) d_X7_symbolMask_3 rfl (Nat.le_of_ble_eq_true rfl) rfl rfl ?_
  exact j_X7_symbolMask_4 hx F a0 ha0 F (0 : Int32) (0 : Int32) M _ h
theorem c_X7_symbolMask {sk : List sm_Sh} (hx : sm_ext skX sk) (F : Nat) (a0 : Nat) (ha0 : sm_row sk a0) (M : sm_M) (r : Int32) (h : f_X7_symbolMask F a0 M = some r) : sm_Ct yX7_symbolMask md_X7_symbolMask 0 sk [.ref a0] M (.inl (some (.int r))) M := sm_enter 2 pn_X7 rfl (Nat.le_of_ble_eq_true rfl) rfl (j_X7_symbolMask hx F a0 ha0 M r h)
/-! UniversalCycles$Row.isLowerRotation(II)Z -/
theorem d_X7_isLowerRotation_0 : decode cX7_isLowerRotation 0 = .ok (.iconst 0, 1) := by decide +kernel
theorem d_X7_isLowerRotation_1 : decode cX7_isLowerRotation 1 = .ok (.istore_n 3, 1) := by decide +kernel
theorem d_X7_isLowerRotation_2 : decode cX7_isLowerRotation 2 = .ok (.iload_n 3, 1) := by decide +kernel
theorem d_X7_isLowerRotation_3 : decode cX7_isLowerRotation 3 = .ok (.aload_n 0, 1) := by decide +kernel
theorem d_X7_isLowerRotation_4 : decode cX7_isLowerRotation 4 = .ok (.getfield 21, 3) := by decide +kernel
theorem d_X7_isLowerRotation_7 : decode cX7_isLowerRotation 7 = .ok (.if_icmp .ge 42, 3) := by decide +kernel
theorem d_X7_isLowerRotation_10 : decode cX7_isLowerRotation 10 = .ok (.aload_n 0, 1) := by decide +kernel
theorem d_X7_isLowerRotation_11 : decode cX7_isLowerRotation 11 = .ok (.iload_n 1, 1) := by decide +kernel
theorem d_X7_isLowerRotation_12 : decode cX7_isLowerRotation 12 = .ok (.iload_n 3, 1) := by decide +kernel
theorem d_X7_isLowerRotation_13 : decode cX7_isLowerRotation 13 = .ok (.iadd, 1) := by decide +kernel
theorem d_X7_isLowerRotation_14 : decode cX7_isLowerRotation 14 = .ok (.invokevirtual 29, 3) := by decide +kernel
theorem d_X7_isLowerRotation_17 : decode cX7_isLowerRotation 17 = .ok (.aload_n 0, 1) := by decide +kernel
theorem d_X7_isLowerRotation_18 : decode cX7_isLowerRotation 18 = .ok (.iload_n 2, 1) := by decide +kernel
theorem d_X7_isLowerRotation_19 : decode cX7_isLowerRotation 19 = .ok (.iload_n 3, 1) := by decide +kernel
theorem d_X7_isLowerRotation_20 : decode cX7_isLowerRotation 20 = .ok (.iadd, 1) := by decide +kernel
theorem d_X7_isLowerRotation_21 : decode cX7_isLowerRotation 21 = .ok (.invokevirtual 29, 3) := by decide +kernel
theorem d_X7_isLowerRotation_24 : decode cX7_isLowerRotation 24 = .ok (.isub, 1) := by decide +kernel
theorem d_X7_isLowerRotation_25 : decode cX7_isLowerRotation 25 = .ok (.istore 4, 2) := by decide +kernel
theorem d_X7_isLowerRotation_27 : decode cX7_isLowerRotation 27 = .ok (.iload 4, 2) := by decide +kernel
theorem d_X7_isLowerRotation_29 : decode cX7_isLowerRotation 29 = .ok (.ifCond .eq 14, 3) := by decide +kernel
theorem d_X7_isLowerRotation_32 : decode cX7_isLowerRotation 32 = .ok (.iload 4, 2) := by decide +kernel
theorem d_X7_isLowerRotation_34 : decode cX7_isLowerRotation 34 = .ok (.ifCond .ge 7, 3) := by decide +kernel
theorem d_X7_isLowerRotation_37 : decode cX7_isLowerRotation 37 = .ok (.iconst 1, 1) := by decide +kernel
theorem d_X7_isLowerRotation_38 : decode cX7_isLowerRotation 38 = .ok (.goto 4, 3) := by decide +kernel
theorem d_X7_isLowerRotation_41 : decode cX7_isLowerRotation 41 = .ok (.iconst 0, 1) := by decide +kernel
theorem d_X7_isLowerRotation_42 : decode cX7_isLowerRotation 42 = .ok (.ireturn, 1) := by decide +kernel
theorem d_X7_isLowerRotation_43 : decode cX7_isLowerRotation 43 = .ok (.iinc 3 1, 3) := by decide +kernel
theorem d_X7_isLowerRotation_46 : decode cX7_isLowerRotation 46 = .ok (.goto (-44), 3) := by decide +kernel
theorem d_X7_isLowerRotation_49 : decode cX7_isLowerRotation 49 = .ok (.iconst 0, 1) := by decide +kernel
theorem d_X7_isLowerRotation_50 : decode cX7_isLowerRotation 50 = .ok (.ireturn, 1) := by decide +kernel
def f_X7_isLowerRotation_42 (F : Nat) (a0 : Nat) (y0 : Int32) (M : sm_M) : Option (Int32) := sm_g (sm_nar .boolean y0) (some y0)
set_option maxRecDepth 100000 in
set_option maxHeartbeats 4000000 in
theorem j_X7_isLowerRotation_42 {sk : List sm_Sh} (hx : sm_ext skX sk) (F : Nat) (a0 : Nat) (ha0 : sm_row sk a0) : ∀ (y0 : Int32) (M : sm_M) (r : Int32), f_X7_isLowerRotation_42 F a0 y0 M = some r → sm_J (md_X7_isLowerRotation, 1, sk, .inl (some (.int r)), M) 42 [none, none, none, none, none] [.int y0] M := by
  intro y0  M r h
  unfold f_X7_isLowerRotation_42 at h
  obtain ⟨g1, h⟩ := sm_gt h
  obtain rfl := Option.some.inj h
  exact sm_iret d_X7_isLowerRotation_42 rfl (sm_nar_of g1).1 rfl rfl
def f_X7_isLowerRotation_2b (F : Nat) (a0 : Nat) (kb2 : Int32 → Int32 → Int32 → sm_M → Option (Int32)) (x1 : Int32) (x2 : Int32) (x3 : Int32) (M : sm_M) : Option (Int32) := if (M.1 a0 1) ≤ x3 then (some (0 : Int32)) else ((f_X7_cyclicSymbol F a0 (x1 + x3) M).bind fun q2 => (f_X7_cyclicSymbol F a0 (x2 + x3) M).bind fun q3 => if (q2 - q3) = 0 then (kb2 x1 x2 (x3 + 1) M) else (if 0 ≤ (q2 - q3) then (f_X7_isLowerRotation_42 F a0 (0 : Int32) M) else (f_X7_isLowerRotation_42 F a0 (1 : Int32) M)))
set_option maxRecDepth 100000 in
set_option maxHeartbeats 4000000 in
theorem j_X7_isLowerRotation_2b {sk : List sm_Sh} (hx : sm_ext skX sk) (F : Nat) (a0 : Nat) (ha0 : sm_row sk a0) (kb2 : Int32 → Int32 → Int32 → sm_M → Option (Int32)) (hkb2 : ∀ (x1 : Int32) (x2 : Int32) (x3 : Int32) (M : sm_M) (r : Int32), kb2 x1 x2 x3 M = some r → sm_J (md_X7_isLowerRotation, 1, sk, .inl (some (.int r)), M) 2 [some (.ref a0), some (.int x1), some (.int x2), some (.int x3), none] [] M) : ∀ (x1 : Int32) (x2 : Int32) (x3 : Int32) (M : sm_M) (r : Int32), f_X7_isLowerRotation_2b F a0 kb2 x1 x2 x3 M = some r → sm_J (md_X7_isLowerRotation, 1, sk, .inl (some (.int r)), M) 2 [some (.ref a0), some (.int x1), some (.int x2), some (.int x3), none] [] M := by
  intro x1 x2 x3  M r h
  unfold f_X7_isLowerRotation_2b at h
  refine sm_iload_n (q := 3) d_X7_isLowerRotation_2 rfl rfl ?_
  refine sm_aload_n (q := 4) d_X7_isLowerRotation_3 rfl rfl ?_
  refine sm_geti (q := 7) d_X7_isLowerRotation_4 rfl fl_X7_21 ha0.1 rfl ?_
  refine sm_icmp_ge (q := 10) (t := 49) d_X7_isLowerRotation_7 rfl rfl (fun c1 => ?_) (fun c1 => ?_)
  · replace h := sm_it c1 h
    refine sm_iconst (q := 50) d_X7_isLowerRotation_49 rfl ci_0 ?_
    obtain rfl := Option.some.inj h
    exact sm_iret d_X7_isLowerRotation_50 rfl (by decide) rfl rfl
  · replace h := sm_if c1 h
    refine sm_aload_n (q := 11) d_X7_isLowerRotation_10 rfl rfl ?_
    refine sm_iload_n (q := 12) d_X7_isLowerRotation_11 rfl rfl ?_
    refine sm_iload_n (q := 13) d_X7_isLowerRotation_12 rfl rfl ?_
    refine sm_iadd (q := 14) d_X7_isLowerRotation_13 rfl ?_
    obtain ⟨q2, e2, h⟩ := sm_bd h
    refine sm_callV (q := 17) (d' := 0) [] [.int (x1 + x3)] d_X7_isLowerRotation_14 rfl lk_X7_29 ha0.1 rfl rfl rfl (Nat.le_of_ble_eq_true rfl) (Nat.le_of_ble_eq_true rfl) (c_X7_cyclicSymbol hx F a0 ha0 (x1 + x3) M _ e2) (st9 := [.int q2]) rfl ?_
    refine sm_aload_n (q := 18) d_X7_isLowerRotation_17 rfl rfl ?_
    refine sm_iload_n (q := 19) d_X7_isLowerRotation_18 rfl rfl ?_
    refine sm_iload_n (q := 20) d_X7_isLowerRotation_19 rfl rfl ?_
    refine sm_iadd (q := 21) d_X7_isLowerRotation_20 rfl ?_
    obtain ⟨q3, e3, h⟩ := sm_bd h
    refine sm_callV (q := 24) (d' := 0) [.int q2] [.int (x2 + x3)] d_X7_isLowerRotation_21 rfl lk_X7_29 ha0.1 rfl rfl rfl (Nat.le_of_ble_eq_true rfl) (Nat.le_of_ble_eq_true rfl) (c_X7_cyclicSymbol hx F a0 ha0 (x2 + x3) M _ e3) (st9 := [.int q3, .int q2]) rfl ?_
    refine sm_isub (q := 25) d_X7_isLowerRotation_24 rfl ?_
    refine sm_istore (q := 27) (lt := [some (.ref a0), some (.int x1), some (.int x2), some (.int x3), some (.int (q2 - q3))]) d_X7_isLowerRotation_25 rfl (Nat.le_of_ble_eq_true rfl) rfl rfl ?_
    refine sm_iload (q := 29) d_X7_isLowerRotation_27 rfl rfl ?_
    refine sm_if_eq (q := 32) (t := 43) d_X7_isLowerRotation_29 rfl rfl (fun c4 => ?_) (fun c4 => ?_)
    · replace h := sm_it c4 h
      refine sm_iinc (q := 46) (v := (x3 + 1)) (lt := [some (.ref a0), some (.int x1), some (.int x2), some (.int (x3 + 1)), some (.int (q2 - q3))]) d_X7_isLowerRotation_43 rfl rfl (ii_1 _) (Nat.le_of_ble_eq_true rfl) rfl rfl ?_
      refine sm_goto (t := 2) d_X7_isLowerRotation_46 rfl ?_
      refine sm_fg [4] ?_
      exact hkb2 x1 x2 (x3 + 1) M _ h
    · replace h := sm_if c4 h
      refine sm_iload (q := 34) d_X7_isLowerRotation_32 rfl rfl ?_
      refine sm_if_ge (q := 37) (t := 41) d_X7_isLowerRotation_34 rfl rfl (fun c5 => ?_) (fun c5 => ?_)
      · replace h := sm_it c5 h
        refine sm_iconst (q := 42) d_X7_isLowerRotation_41 rfl ci_0 ?_
        refine sm_fg [0, 1, 2, 3, 4] ?_
        exact j_X7_isLowerRotation_42 hx F a0 ha0 (0 : Int32) M _ h
      · replace h := sm_if c5 h
        refine sm_iconst (q := 38) d_X7_isLowerRotation_37 rfl ci_1 ?_
        refine sm_goto (t := 42) d_X7_isLowerRotation_38 rfl ?_
        refine sm_fg [0, 1, 2, 3, 4] ?_
        exact j_X7_isLowerRotation_42 hx F a0 ha0 (1 : Int32) M _ h
def f_X7_isLowerRotation_2 (F : Nat) (a0 : Nat) (n : Nat) : Int32 → Int32 → Int32 → sm_M → Option (Int32) := match n with
 | 0 => fun _ _ _ _ => none
 | n + 1 => f_X7_isLowerRotation_2b F a0 (f_X7_isLowerRotation_2 F a0 n)
theorem j_X7_isLowerRotation_2 {sk : List sm_Sh} (hx : sm_ext skX sk) (F : Nat) (a0 : Nat) (ha0 : sm_row sk a0) : ∀ (n : Nat) (x1 : Int32) (x2 : Int32) (x3 : Int32) (M : sm_M) (r : Int32), f_X7_isLowerRotation_2 F a0 n x1 x2 x3 M = some r → sm_J (md_X7_isLowerRotation, 1, sk, .inl (some (.int r)), M) 2 [some (.ref a0), some (.int x1), some (.int x2), some (.int x3), none] [] M := by
  intro n
  induction n with
  | zero => intro x1 x2 x3  M r h; exact nomatch (show (none : Option (Int32)) = some r from h)
  | succ n ih => exact j_X7_isLowerRotation_2b hx F a0 ha0 (f_X7_isLowerRotation_2 F a0 n) ih
def f_X7_isLowerRotation (F : Nat) (a0 : Nat) (x1 : Int32) (x2 : Int32) (M : sm_M) : Option (Int32) := f_X7_isLowerRotation_2 F a0 F x1 x2 (0 : Int32) M
set_option maxRecDepth 100000 in
set_option maxHeartbeats 4000000 in
theorem j_X7_isLowerRotation {sk : List sm_Sh} (hx : sm_ext skX sk) (F : Nat) (a0 : Nat) (ha0 : sm_row sk a0) : ∀ (x1 : Int32) (x2 : Int32) (M : sm_M) (r : Int32), f_X7_isLowerRotation F a0 x1 x2 M = some r → sm_J (md_X7_isLowerRotation, 1, sk, .inl (some (.int r)), M) 0 [some (.ref a0), some (.int x1), some (.int x2), none, none] [] M := by
  intro x1 x2  M r h
  unfold f_X7_isLowerRotation at h
  refine sm_iconst (q := 1) d_X7_isLowerRotation_0 rfl ci_0 ?_
  refine sm_istore_n (q := 2) (lt := [some (.ref a0), some (.int x1), some (.int x2), some (.int (0 : Int32)), none]) d_X7_isLowerRotation_1 rfl (Nat.le_of_ble_eq_true rfl) rfl rfl ?_
  exact j_X7_isLowerRotation_2 hx F a0 ha0 F x1 x2 (0 : Int32) M _ h
theorem c_X7_isLowerRotation {sk : List sm_Sh} (hx : sm_ext skX sk) (F : Nat) (a0 : Nat) (ha0 : sm_row sk a0) (x1 : Int32) (x2 : Int32) (M : sm_M) (r : Int32) (h : f_X7_isLowerRotation F a0 x1 x2 M = some r) : sm_Ct yX7_isLowerRotation md_X7_isLowerRotation 1 sk [.ref a0, .int x1, .int x2] M (.inl (some (.int r))) M := sm_enter 2 pn_X7 rfl (Nat.le_of_ble_eq_true rfl) rfl (j_X7_isLowerRotation hx F a0 ha0 x1 x2 M r h)
/-! UniversalCycles$Row.lowestRotation()I -/
theorem d_X7_lowestRotation_0 : decode cX7_lowestRotation 0 = .ok (.iconst 0, 1) := by decide +kernel
theorem d_X7_lowestRotation_1 : decode cX7_lowestRotation 1 = .ok (.istore_n 1, 1) := by decide +kernel
theorem d_X7_lowestRotation_2 : decode cX7_lowestRotation 2 = .ok (.iconst 1, 1) := by decide +kernel
theorem d_X7_lowestRotation_3 : decode cX7_lowestRotation 3 = .ok (.istore_n 2, 1) := by decide +kernel
theorem d_X7_lowestRotation_4 : decode cX7_lowestRotation 4 = .ok (.iload_n 2, 1) := by decide +kernel
theorem d_X7_lowestRotation_5 : decode cX7_lowestRotation 5 = .ok (.aload_n 0, 1) := by decide +kernel
theorem d_X7_lowestRotation_6 : decode cX7_lowestRotation 6 = .ok (.getfield 21, 3) := by decide +kernel
theorem d_X7_lowestRotation_9 : decode cX7_lowestRotation 9 = .ok (.if_icmp .ge 20, 3) := by decide +kernel
theorem d_X7_lowestRotation_12 : decode cX7_lowestRotation 12 = .ok (.aload_n 0, 1) := by decide +kernel
theorem d_X7_lowestRotation_13 : decode cX7_lowestRotation 13 = .ok (.iload_n 2, 1) := by decide +kernel
theorem d_X7_lowestRotation_14 : decode cX7_lowestRotation 14 = .ok (.iload_n 1, 1) := by decide +kernel
theorem d_X7_lowestRotation_15 : decode cX7_lowestRotation 15 = .ok (.invokevirtual 25, 3) := by decide +kernel
theorem d_X7_lowestRotation_18 : decode cX7_lowestRotation 18 = .ok (.ifCond .eq 5, 3) := by decide +kernel
theorem d_X7_lowestRotation_21 : decode cX7_lowestRotation 21 = .ok (.iload_n 2, 1) := by decide +kernel
theorem d_X7_lowestRotation_22 : decode cX7_lowestRotation 22 = .ok (.istore_n 1, 1) := by decide +kernel
theorem d_X7_lowestRotation_23 : decode cX7_lowestRotation 23 = .ok (.iinc 2 1, 3) := by decide +kernel
theorem d_X7_lowestRotation_26 : decode cX7_lowestRotation 26 = .ok (.goto (-22), 3) := by decide +kernel
theorem d_X7_lowestRotation_29 : decode cX7_lowestRotation 29 = .ok (.iload_n 1, 1) := by decide +kernel
theorem d_X7_lowestRotation_30 : decode cX7_lowestRotation 30 = .ok (.ireturn, 1) := by decide +kernel
def f_X7_lowestRotation_23 (F : Nat) (a0 : Nat) (kb4 : Int32 → Int32 → sm_M → Option (Int32)) (x1 : Int32) (x2 : Int32) (M : sm_M) : Option (Int32) := kb4 x1 (x2 + 1) M
set_option maxRecDepth 100000 in
set_option maxHeartbeats 4000000 in
theorem j_X7_lowestRotation_23 {sk : List sm_Sh} (hx : sm_ext skX sk) (F : Nat) (a0 : Nat) (ha0 : sm_row sk a0) (kb4 : Int32 → Int32 → sm_M → Option (Int32)) (hkb4 : ∀ (x1 : Int32) (x2 : Int32) (M : sm_M) (r : Int32), kb4 x1 x2 M = some r → sm_J (md_X7_lowestRotation, 2, sk, .inl (some (.int r)), M) 4 [some (.ref a0), some (.int x1), some (.int x2)] [] M) : ∀ (x1 : Int32) (x2 : Int32) (M : sm_M) (r : Int32), f_X7_lowestRotation_23 F a0 kb4 x1 x2 M = some r → sm_J (md_X7_lowestRotation, 2, sk, .inl (some (.int r)), M) 23 [some (.ref a0), some (.int x1), some (.int x2)] [] M := by
  intro x1 x2  M r h
  unfold f_X7_lowestRotation_23 at h
  refine sm_iinc (q := 26) (v := (x2 + 1)) (lt := [some (.ref a0), some (.int x1), some (.int (x2 + 1))]) d_X7_lowestRotation_23 rfl rfl (ii_1 _) (Nat.le_of_ble_eq_true rfl) rfl rfl ?_
  refine sm_goto (t := 4) d_X7_lowestRotation_26 rfl ?_
  exact hkb4 x1 (x2 + 1) M _ h
def f_X7_lowestRotation_4b (F : Nat) (a0 : Nat) (kb4 : Int32 → Int32 → sm_M → Option (Int32)) (x1 : Int32) (x2 : Int32) (M : sm_M) : Option (Int32) := if (M.1 a0 1) ≤ x2 then (some x1) else ((f_X7_isLowerRotation F a0 x2 x1 M).bind fun q2 => if q2 = 0 then (f_X7_lowestRotation_23 F a0 kb4 x1 x2 M) else (f_X7_lowestRotation_23 F a0 kb4 x2 x2 M))
set_option maxRecDepth 100000 in
set_option maxHeartbeats 4000000 in
theorem j_X7_lowestRotation_4b {sk : List sm_Sh} (hx : sm_ext skX sk) (F : Nat) (a0 : Nat) (ha0 : sm_row sk a0) (kb4 : Int32 → Int32 → sm_M → Option (Int32)) (hkb4 : ∀ (x1 : Int32) (x2 : Int32) (M : sm_M) (r : Int32), kb4 x1 x2 M = some r → sm_J (md_X7_lowestRotation, 2, sk, .inl (some (.int r)), M) 4 [some (.ref a0), some (.int x1), some (.int x2)] [] M) : ∀ (x1 : Int32) (x2 : Int32) (M : sm_M) (r : Int32), f_X7_lowestRotation_4b F a0 kb4 x1 x2 M = some r → sm_J (md_X7_lowestRotation, 2, sk, .inl (some (.int r)), M) 4 [some (.ref a0), some (.int x1), some (.int x2)] [] M := by
  intro x1 x2  M r h
  unfold f_X7_lowestRotation_4b at h
  refine sm_iload_n (q := 5) d_X7_lowestRotation_4 rfl rfl ?_
  refine sm_aload_n (q := 6) d_X7_lowestRotation_5 rfl rfl ?_
  refine sm_geti (q := 9) d_X7_lowestRotation_6 rfl fl_X7_21 ha0.1 rfl ?_
  refine sm_icmp_ge (q := 12) (t := 29) d_X7_lowestRotation_9 rfl rfl (fun c1 => ?_) (fun c1 => ?_)
  · replace h := sm_it c1 h
    refine sm_iload_n (q := 30) d_X7_lowestRotation_29 rfl rfl ?_
    obtain rfl := Option.some.inj h
    exact sm_iret d_X7_lowestRotation_30 rfl rfl rfl rfl
  · replace h := sm_if c1 h
    refine sm_aload_n (q := 13) d_X7_lowestRotation_12 rfl rfl ?_
    refine sm_iload_n (q := 14) d_X7_lowestRotation_13 rfl rfl ?_
    refine sm_iload_n (q := 15) d_X7_lowestRotation_14 rfl rfl ?_
    obtain ⟨q2, e2, h⟩ := sm_bd h
    refine sm_callV (q := 18) (d' := 1) [] [.int x2, .int x1] d_X7_lowestRotation_15 rfl lk_X7_25 ha0.1 rfl rfl rfl (Nat.le_of_ble_eq_true rfl) (Nat.le_of_ble_eq_true rfl) (c_X7_isLowerRotation hx F a0 ha0 x2 x1 M _ e2) (st9 := [.int q2]) rfl ?_
    refine sm_if_eq (q := 21) (t := 23) d_X7_lowestRotation_18 rfl rfl (fun c3 => ?_) (fun c3 => ?_)
    · replace h := sm_it c3 h
      exact j_X7_lowestRotation_23 hx F a0 ha0 kb4 hkb4 x1 x2 M _ h
    · replace h := sm_if c3 h
      refine sm_iload_n (q := 22) d_X7_lowestRotation_21 rfl rfl ?_
      refine sm_istore_n (q := 23) (lt := [some (.ref a0), some (.int x2), some (.int x2)]) d_X7_lowestRotation_22 rfl (Nat.le_of_ble_eq_true rfl) rfl rfl ?_
      exact j_X7_lowestRotation_23 hx F a0 ha0 kb4 hkb4 x2 x2 M _ h
def f_X7_lowestRotation_4 (F : Nat) (a0 : Nat) (n : Nat) : Int32 → Int32 → sm_M → Option (Int32) := match n with
 | 0 => fun _ _ _ => none
 | n + 1 => f_X7_lowestRotation_4b F a0 (f_X7_lowestRotation_4 F a0 n)
theorem j_X7_lowestRotation_4 {sk : List sm_Sh} (hx : sm_ext skX sk) (F : Nat) (a0 : Nat) (ha0 : sm_row sk a0) : ∀ (n : Nat) (x1 : Int32) (x2 : Int32) (M : sm_M) (r : Int32), f_X7_lowestRotation_4 F a0 n x1 x2 M = some r → sm_J (md_X7_lowestRotation, 2, sk, .inl (some (.int r)), M) 4 [some (.ref a0), some (.int x1), some (.int x2)] [] M := by
  intro n
  induction n with
  | zero => intro x1 x2  M r h; exact nomatch (show (none : Option (Int32)) = some r from h)
  | succ n ih => exact j_X7_lowestRotation_4b hx F a0 ha0 (f_X7_lowestRotation_4 F a0 n) ih
def f_X7_lowestRotation (F : Nat) (a0 : Nat) (M : sm_M) : Option (Int32) := f_X7_lowestRotation_4 F a0 F (0 : Int32) (1 : Int32) M
set_option maxRecDepth 100000 in
set_option maxHeartbeats 4000000 in
theorem j_X7_lowestRotation {sk : List sm_Sh} (hx : sm_ext skX sk) (F : Nat) (a0 : Nat) (ha0 : sm_row sk a0) : ∀ (M : sm_M) (r : Int32), f_X7_lowestRotation F a0 M = some r → sm_J (md_X7_lowestRotation, 2, sk, .inl (some (.int r)), M) 0 [some (.ref a0), none, none] [] M := by
  intro   M r h
  unfold f_X7_lowestRotation at h
  refine sm_iconst (q := 1) d_X7_lowestRotation_0 rfl ci_0 ?_
  refine sm_istore_n (q := 2) (lt := [some (.ref a0), some (.int (0 : Int32)), none]) d_X7_lowestRotation_1 rfl (Nat.le_of_ble_eq_true rfl) rfl rfl ?_
  refine sm_iconst (q := 3) d_X7_lowestRotation_2 rfl ci_1 ?_
  refine sm_istore_n (q := 4) (lt := [some (.ref a0), some (.int (0 : Int32)), some (.int (1 : Int32))]) d_X7_lowestRotation_3 rfl (Nat.le_of_ble_eq_true rfl) rfl rfl ?_
  exact j_X7_lowestRotation_4 hx F a0 ha0 F (0 : Int32) (1 : Int32) M _ h
theorem c_X7_lowestRotation {sk : List sm_Sh} (hx : sm_ext skX sk) (F : Nat) (a0 : Nat) (ha0 : sm_row sk a0) (M : sm_M) (r : Int32) (h : f_X7_lowestRotation F a0 M = some r) : sm_Ct yX7_lowestRotation md_X7_lowestRotation 2 sk [.ref a0] M (.inl (some (.int r))) M := sm_enter 2 pn_X7 rfl (Nat.le_of_ble_eq_true rfl) rfl (j_X7_lowestRotation hx F a0 ha0 M r h)
