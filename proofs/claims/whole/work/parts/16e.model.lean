/-! ===== methods, decompiled: 16e.model ===== -/
/-! UniversalCyclesModel.runFrom(I)I -/
theorem d_X12_runFrom_0 : decode cX12_runFrom 0 = .ok (.iconst 0, 1) := by decide +kernel
theorem d_X12_runFrom_1 : decode cX12_runFrom 1 = .ok (.istore_n 2, 1) := by decide +kernel
theorem d_X12_runFrom_2 : decode cX12_runFrom 2 = .ok (.iload_n 2, 1) := by decide +kernel
theorem d_X12_runFrom_3 : decode cX12_runFrom 3 = .ok (.sipush 200, 3) := by decide +kernel
theorem d_X12_runFrom_6 : decode cX12_runFrom 6 = .ok (.if_icmp .ge 16, 3) := by decide +kernel
theorem d_X12_runFrom_9 : decode cX12_runFrom 9 = .ok (.aload_n 0, 1) := by decide +kernel
theorem d_X12_runFrom_10 : decode cX12_runFrom 10 = .ok (.getfield 58, 3) := by decide +kernel
theorem d_X12_runFrom_13 : decode cX12_runFrom 13 = .ok (.iload_n 2, 1) := by decide +kernel
theorem d_X12_runFrom_14 : decode cX12_runFrom 14 = .ok (.iconst 0, 1) := by decide +kernel
theorem d_X12_runFrom_15 : decode cX12_runFrom 15 = .ok (.bastore, 1) := by decide +kernel
theorem d_X12_runFrom_16 : decode cX12_runFrom 16 = .ok (.iinc 2 1, 3) := by decide +kernel
theorem d_X12_runFrom_19 : decode cX12_runFrom 19 = .ok (.goto (-17), 3) := by decide +kernel
theorem d_X12_runFrom_22 : decode cX12_runFrom 22 = .ok (.iconst 0, 1) := by decide +kernel
theorem d_X12_runFrom_23 : decode cX12_runFrom 23 = .ok (.istore_n 2, 1) := by decide +kernel
theorem d_X12_runFrom_24 : decode cX12_runFrom 24 = .ok (.iload_n 2, 1) := by decide +kernel
theorem d_X12_runFrom_25 : decode cX12_runFrom 25 = .ok (.aload_n 0, 1) := by decide +kernel
theorem d_X12_runFrom_26 : decode cX12_runFrom 26 = .ok (.getfield 125, 3) := by decide +kernel
theorem d_X12_runFrom_29 : decode cX12_runFrom 29 = .ok (.if_icmp .ge 45, 3) := by decide +kernel
theorem d_X12_runFrom_32 : decode cX12_runFrom 32 = .ok (.aload_n 0, 1) := by decide +kernel
theorem d_X12_runFrom_33 : decode cX12_runFrom 33 = .ok (.iload_n 1, 1) := by decide +kernel
theorem d_X12_runFrom_34 : decode cX12_runFrom 34 = .ok (.iload_n 2, 1) := by decide +kernel
theorem d_X12_runFrom_35 : decode cX12_runFrom 35 = .ok (.iadd, 1) := by decide +kernel
theorem d_X12_runFrom_36 : decode cX12_runFrom 36 = .ok (.aload_n 0, 1) := by decide +kernel
theorem d_X12_runFrom_37 : decode cX12_runFrom 37 = .ok (.getfield 125, 3) := by decide +kernel
theorem d_X12_runFrom_40 : decode cX12_runFrom 40 = .ok (.irem, 1) := by decide +kernel
theorem d_X12_runFrom_41 : decode cX12_runFrom 41 = .ok (.invokevirtual 161, 3) := by decide +kernel
theorem d_X12_runFrom_44 : decode cX12_runFrom 44 = .ok (.istore_n 3, 1) := by decide +kernel
theorem d_X12_runFrom_45 : decode cX12_runFrom 45 = .ok (.iload_n 3, 1) := by decide +kernel
theorem d_X12_runFrom_46 : decode cX12_runFrom 46 = .ok (.iconst (-1), 1) := by decide +kernel
theorem d_X12_runFrom_47 : decode cX12_runFrom 47 = .ok (.if_icmp .eq 12, 3) := by decide +kernel
theorem d_X12_runFrom_50 : decode cX12_runFrom 50 = .ok (.aload_n 0, 1) := by decide +kernel
theorem d_X12_runFrom_51 : decode cX12_runFrom 51 = .ok (.getfield 58, 3) := by decide +kernel
theorem d_X12_runFrom_54 : decode cX12_runFrom 54 = .ok (.iload_n 3, 1) := by decide +kernel
theorem d_X12_runFrom_55 : decode cX12_runFrom 55 = .ok (.baload, 1) := by decide +kernel
theorem d_X12_runFrom_56 : decode cX12_runFrom 56 = .ok (.ifCond .eq 5, 3) := by decide +kernel
theorem d_X12_runFrom_59 : decode cX12_runFrom 59 = .ok (.iload_n 2, 1) := by decide +kernel
theorem d_X12_runFrom_60 : decode cX12_runFrom 60 = .ok (.ireturn, 1) := by decide +kernel
theorem d_X12_runFrom_61 : decode cX12_runFrom 61 = .ok (.aload_n 0, 1) := by decide +kernel
theorem d_X12_runFrom_62 : decode cX12_runFrom 62 = .ok (.getfield 58, 3) := by decide +kernel
theorem d_X12_runFrom_65 : decode cX12_runFrom 65 = .ok (.iload_n 3, 1) := by decide +kernel
theorem d_X12_runFrom_66 : decode cX12_runFrom 66 = .ok (.iconst 1, 1) := by decide +kernel
theorem d_X12_runFrom_67 : decode cX12_runFrom 67 = .ok (.bastore, 1) := by decide +kernel
theorem d_X12_runFrom_68 : decode cX12_runFrom 68 = .ok (.iinc 2 1, 3) := by decide +kernel
theorem d_X12_runFrom_71 : decode cX12_runFrom 71 = .ok (.goto (-47), 3) := by decide +kernel
theorem d_X12_runFrom_74 : decode cX12_runFrom 74 = .ok (.aload_n 0, 1) := by decide +kernel
theorem d_X12_runFrom_75 : decode cX12_runFrom 75 = .ok (.getfield 125, 3) := by decide +kernel
theorem d_X12_runFrom_78 : decode cX12_runFrom 78 = .ok (.ireturn, 1) := by decide +kernel
def f_X12_runFrom_59 (F : Nat) (x2 : Int32) (M : sm_M) : Option (Int32 × sm_M) := some (x2, M)
set_option maxRecDepth 100000 in
set_option maxHeartbeats 4000000 in
theorem j_X12_runFrom_59 {sk : List sm_Sh} (hx : sm_ext skM sk) (F : Nat) : ∀ (x2 : Int32) (M : sm_M) (r : Int32 × sm_M), f_X12_runFrom_59 F x2 M = some r → sm_J (md_X12_runFrom, 3, sk, .inl (some (.int r.1)), r.2) 59 [none, none, some (.int x2), none] [] M := by
  intro x2  M r h
  unfold f_X12_runFrom_59 at h
  refine sm_iload_n (q := 60) d_X12_runFrom_59 rfl rfl ?_
  obtain rfl := Option.some.inj h
  exact sm_iret d_X12_runFrom_60 rfl rfl rfl rfl
def f_X12_runFrom_24b (F : Nat) (kb24 : Int32 → Int32 → sm_M → Option (Int32 × sm_M)) (x1 : Int32) (x2 : Int32) (M : sm_M) : Option (Int32 × sm_M) := if (M.1 80 12) ≤ x2 then (some ((M.1 80 12), M)) else (sm_g (sm_nz (M.1 80 12)) ((f_X12_shows F ((x1 + x2) - (x1 + x2) / (M.1 80 12) * (M.1 80 12)) M).bind fun q3 => if q3.1 = (-1 : Int32) then (f_X12_runFrom_59 F x2 q3.2) else (sm_g (sm_ib q3.1 200) (if (q3.2.1 93 q3.1.toNatClampNeg) = 0 then (sm_g (sm_ib q3.1 200) (kb24 x1 (x2 + 1) ((sm_mi q3.2 93 q3.1.toNatClampNeg (vp_nar .boolean (1 : Int32)))))) else (f_X12_runFrom_59 F x2 q3.2)))))
set_option maxRecDepth 100000 in
set_option maxHeartbeats 4000000 in
theorem j_X12_runFrom_24b {sk : List sm_Sh} (hx : sm_ext skM sk) (F : Nat) (kb24 : Int32 → Int32 → sm_M → Option (Int32 × sm_M)) (hkb24 : ∀ (x1 : Int32) (x2 : Int32) (M : sm_M) (r : Int32 × sm_M), kb24 x1 x2 M = some r → sm_J (md_X12_runFrom, 3, sk, .inl (some (.int r.1)), r.2) 24 [some (.ref 80), some (.int x1), some (.int x2), none] [] M) : ∀ (x1 : Int32) (x2 : Int32) (M : sm_M) (r : Int32 × sm_M), f_X12_runFrom_24b F kb24 x1 x2 M = some r → sm_J (md_X12_runFrom, 3, sk, .inl (some (.int r.1)), r.2) 24 [some (.ref 80), some (.int x1), some (.int x2), none] [] M := by
  intro x1 x2  M r h
  unfold f_X12_runFrom_24b at h
  refine sm_iload_n (q := 25) d_X12_runFrom_24 rfl rfl ?_
  refine sm_aload_n (q := 26) d_X12_runFrom_25 rfl rfl ?_
  refine sm_geti (q := 29) d_X12_runFrom_26 rfl fl_X12_125 (hx sx_80) rfl ?_
  refine sm_icmp_ge (q := 32) (t := 74) d_X12_runFrom_29 rfl rfl (fun c1 => ?_) (fun c1 => ?_)
  · replace h := sm_it c1 h
    refine sm_aload_n (q := 75) d_X12_runFrom_74 rfl rfl ?_
    refine sm_geti (q := 78) d_X12_runFrom_75 rfl fl_X12_125 (hx sx_80) rfl ?_
    obtain rfl := Option.some.inj h
    exact sm_iret d_X12_runFrom_78 rfl rfl rfl rfl
  · replace h := sm_if c1 h
    refine sm_aload_n (q := 33) d_X12_runFrom_32 rfl rfl ?_
    refine sm_iload_n (q := 34) d_X12_runFrom_33 rfl rfl ?_
    refine sm_iload_n (q := 35) d_X12_runFrom_34 rfl rfl ?_
    refine sm_iadd (q := 36) d_X12_runFrom_35 rfl ?_
    refine sm_aload_n (q := 37) d_X12_runFrom_36 rfl rfl ?_
    refine sm_geti (q := 40) d_X12_runFrom_37 rfl fl_X12_125 (hx sx_80) rfl ?_
    obtain ⟨g2, h⟩ := sm_gt h
    refine sm_irem (q := 41) d_X12_runFrom_40 rfl (sm_nz_of g2) ?_
    obtain ⟨q3, e3, h⟩ := sm_bd h
    refine sm_callV (q := 44) (d' := 2) [] [.int ((x1 + x2) - (x1 + x2) / (M.1 80 12) * (M.1 80 12))] d_X12_runFrom_41 rfl lk_X12_161 (hx sx_80) rfl rfl rfl (Nat.le_of_ble_eq_true rfl) (Nat.le_of_ble_eq_true rfl) (c_X12_shows hx F ((x1 + x2) - (x1 + x2) / (M.1 80 12) * (M.1 80 12)) M _ e3) (st9 := [.int q3.1]) rfl ?_
    refine sm_istore_n (q := 45) (lt := [some (.ref 80), some (.int x1), some (.int x2), some (.int q3.1)]) d_X12_runFrom_44 rfl (Nat.le_of_ble_eq_true rfl) rfl rfl ?_
    refine sm_iload_n (q := 46) d_X12_runFrom_45 rfl rfl ?_
    refine sm_iconst (q := 47) d_X12_runFrom_46 rfl ci_m1 ?_
    refine sm_icmp_eq (q := 50) (t := 59) d_X12_runFrom_47 rfl rfl (fun c4 => ?_) (fun c4 => ?_)
    · replace h := sm_it c4 h
      refine sm_fg [0, 1, 3] ?_
      exact j_X12_runFrom_59 hx F x2 q3.2 _ h
    · replace h := sm_if c4 h
      refine sm_aload_n (q := 51) d_X12_runFrom_50 rfl rfl ?_
      refine sm_getr (q := 54) d_X12_runFrom_51 rfl fl_X12_58 (hx sx_80) rfl ?_
      refine sm_iload_n (q := 55) d_X12_runFrom_54 rfl rfl ?_
      obtain ⟨g5, h⟩ := sm_gt h
      refine sm_baload (q := 56) d_X12_runFrom_55 rfl (hx sx_93) (sm_ib_of g5) ?_
      refine sm_if_eq (q := 59) (t := 61) d_X12_runFrom_56 rfl rfl (fun c6 => ?_) (fun c6 => ?_)
      · replace h := sm_it c6 h
        refine sm_aload_n (q := 62) d_X12_runFrom_61 rfl rfl ?_
        refine sm_getr (q := 65) d_X12_runFrom_62 rfl fl_X12_58 (hx sx_80) rfl ?_
        refine sm_iload_n (q := 66) d_X12_runFrom_65 rfl rfl ?_
        refine sm_iconst (q := 67) d_X12_runFrom_66 rfl ci_1 ?_
        obtain ⟨g7, h⟩ := sm_gt h
        refine sm_bastore (q := 68) d_X12_runFrom_67 rfl (hx sx_93) (sm_ib_of g7) ?_
        refine sm_iinc (q := 71) (v := (x2 + 1)) (lt := [some (.ref 80), some (.int x1), some (.int (x2 + 1)), some (.int q3.1)]) d_X12_runFrom_68 rfl rfl (ii_1 _) (Nat.le_of_ble_eq_true rfl) rfl rfl ?_
        refine sm_goto (t := 24) d_X12_runFrom_71 rfl ?_
        refine sm_fg [3] ?_
        exact hkb24 x1 (x2 + 1) ((sm_mi q3.2 93 q3.1.toNatClampNeg (vp_nar .boolean (1 : Int32)))) _ h
      · replace h := sm_if c6 h
        refine sm_fg [0, 1, 3] ?_
        exact j_X12_runFrom_59 hx F x2 q3.2 _ h
def f_X12_runFrom_24 (F : Nat) (n : Nat) : Int32 → Int32 → sm_M → Option (Int32 × sm_M) := match n with
 | 0 => fun _ _ _ => none
 | n + 1 => f_X12_runFrom_24b F (f_X12_runFrom_24 F n)
theorem j_X12_runFrom_24 {sk : List sm_Sh} (hx : sm_ext skM sk) (F : Nat) : ∀ (n : Nat) (x1 : Int32) (x2 : Int32) (M : sm_M) (r : Int32 × sm_M), f_X12_runFrom_24 F n x1 x2 M = some r → sm_J (md_X12_runFrom, 3, sk, .inl (some (.int r.1)), r.2) 24 [some (.ref 80), some (.int x1), some (.int x2), none] [] M := by
  intro n
  induction n with
  | zero => intro x1 x2  M r h; exact nomatch (show (none : Option (Int32 × sm_M)) = some r from h)
  | succ n ih => exact j_X12_runFrom_24b hx F (f_X12_runFrom_24 F n) ih
def f_X12_runFrom_2b (F : Nat) (kb2 : Int32 → Int32 → sm_M → Option (Int32 × sm_M)) (x1 : Int32) (x2 : Int32) (M : sm_M) : Option (Int32 × sm_M) := if (200 : Int32) ≤ x2 then (f_X12_runFrom_24 F F x1 (0 : Int32) M) else (sm_g (sm_ib x2 200) (kb2 x1 (x2 + 1) ((sm_mi M 93 x2.toNatClampNeg (vp_nar .boolean (0 : Int32))))))
set_option maxRecDepth 100000 in
set_option maxHeartbeats 4000000 in
theorem j_X12_runFrom_2b {sk : List sm_Sh} (hx : sm_ext skM sk) (F : Nat) (kb2 : Int32 → Int32 → sm_M → Option (Int32 × sm_M)) (hkb2 : ∀ (x1 : Int32) (x2 : Int32) (M : sm_M) (r : Int32 × sm_M), kb2 x1 x2 M = some r → sm_J (md_X12_runFrom, 3, sk, .inl (some (.int r.1)), r.2) 2 [some (.ref 80), some (.int x1), some (.int x2), none] [] M) : ∀ (x1 : Int32) (x2 : Int32) (M : sm_M) (r : Int32 × sm_M), f_X12_runFrom_2b F kb2 x1 x2 M = some r → sm_J (md_X12_runFrom, 3, sk, .inl (some (.int r.1)), r.2) 2 [some (.ref 80), some (.int x1), some (.int x2), none] [] M := by
  intro x1 x2  M r h
  unfold f_X12_runFrom_2b at h
  refine sm_iload_n (q := 3) d_X12_runFrom_2 rfl rfl ?_
  refine sm_sipush (q := 6) d_X12_runFrom_3 rfl cs_200 ?_
  refine sm_icmp_ge (q := 9) (t := 22) d_X12_runFrom_6 rfl rfl (fun c1 => ?_) (fun c1 => ?_)
  · replace h := sm_it c1 h
    refine sm_iconst (q := 23) d_X12_runFrom_22 rfl ci_0 ?_
    refine sm_istore_n (q := 24) (lt := [some (.ref 80), some (.int x1), some (.int (0 : Int32)), none]) d_X12_runFrom_23 rfl (Nat.le_of_ble_eq_true rfl) rfl rfl ?_
    exact j_X12_runFrom_24 hx F F x1 (0 : Int32) M _ h
  · replace h := sm_if c1 h
    refine sm_aload_n (q := 10) d_X12_runFrom_9 rfl rfl ?_
    refine sm_getr (q := 13) d_X12_runFrom_10 rfl fl_X12_58 (hx sx_80) rfl ?_
    refine sm_iload_n (q := 14) d_X12_runFrom_13 rfl rfl ?_
    refine sm_iconst (q := 15) d_X12_runFrom_14 rfl ci_0 ?_
    obtain ⟨g2, h⟩ := sm_gt h
    refine sm_bastore (q := 16) d_X12_runFrom_15 rfl (hx sx_93) (sm_ib_of g2) ?_
    refine sm_iinc (q := 19) (v := (x2 + 1)) (lt := [some (.ref 80), some (.int x1), some (.int (x2 + 1)), none]) d_X12_runFrom_16 rfl rfl (ii_1 _) (Nat.le_of_ble_eq_true rfl) rfl rfl ?_
    refine sm_goto (t := 2) d_X12_runFrom_19 rfl ?_
    exact hkb2 x1 (x2 + 1) ((sm_mi M 93 x2.toNatClampNeg (vp_nar .boolean (0 : Int32)))) _ h
def f_X12_runFrom_2 (F : Nat) (n : Nat) : Int32 → Int32 → sm_M → Option (Int32 × sm_M) := match n with
 | 0 => fun _ _ _ => none
 | n + 1 => f_X12_runFrom_2b F (f_X12_runFrom_2 F n)
theorem j_X12_runFrom_2 {sk : List sm_Sh} (hx : sm_ext skM sk) (F : Nat) : ∀ (n : Nat) (x1 : Int32) (x2 : Int32) (M : sm_M) (r : Int32 × sm_M), f_X12_runFrom_2 F n x1 x2 M = some r → sm_J (md_X12_runFrom, 3, sk, .inl (some (.int r.1)), r.2) 2 [some (.ref 80), some (.int x1), some (.int x2), none] [] M := by
  intro n
  induction n with
  | zero => intro x1 x2  M r h; exact nomatch (show (none : Option (Int32 × sm_M)) = some r from h)
  | succ n ih => exact j_X12_runFrom_2b hx F (f_X12_runFrom_2 F n) ih
def f_X12_runFrom (F : Nat) (x1 : Int32) (M : sm_M) : Option (Int32 × sm_M) := f_X12_runFrom_2 F F x1 (0 : Int32) M
set_option maxRecDepth 100000 in
set_option maxHeartbeats 4000000 in
theorem j_X12_runFrom {sk : List sm_Sh} (hx : sm_ext skM sk) (F : Nat) : ∀ (x1 : Int32) (M : sm_M) (r : Int32 × sm_M), f_X12_runFrom F x1 M = some r → sm_J (md_X12_runFrom, 3, sk, .inl (some (.int r.1)), r.2) 0 [some (.ref 80), some (.int x1), none, none] [] M := by
  intro x1  M r h
  unfold f_X12_runFrom at h
  refine sm_iconst (q := 1) d_X12_runFrom_0 rfl ci_0 ?_
  refine sm_istore_n (q := 2) (lt := [some (.ref 80), some (.int x1), some (.int (0 : Int32)), none]) d_X12_runFrom_1 rfl (Nat.le_of_ble_eq_true rfl) rfl rfl ?_
  exact j_X12_runFrom_2 hx F F x1 (0 : Int32) M _ h
theorem c_X12_runFrom {sk : List sm_Sh} (hx : sm_ext skM sk) (F : Nat) (x1 : Int32) (M : sm_M) (r : Int32 × sm_M) (h : f_X12_runFrom F x1 M = some r) : sm_Ct yX12_runFrom md_X12_runFrom 3 sk [.ref 80, .int x1] M (.inl (some (.int r.1))) r.2 := sm_enter 2 pn_X12 rfl (Nat.le_of_ble_eq_true rfl) rfl (j_X12_runFrom hx F x1 M r h)
/-! UniversalCyclesModel.bestStart()I -/
theorem d_X12_bestStart_0 : decode cX12_bestStart 0 = .ok (.iconst 0, 1) := by decide +kernel
theorem d_X12_bestStart_1 : decode cX12_bestStart 1 = .ok (.istore_n 1, 1) := by decide +kernel
theorem d_X12_bestStart_2 : decode cX12_bestStart 2 = .ok (.iconst 1, 1) := by decide +kernel
theorem d_X12_bestStart_3 : decode cX12_bestStart 3 = .ok (.istore_n 2, 1) := by decide +kernel
theorem d_X12_bestStart_4 : decode cX12_bestStart 4 = .ok (.iload_n 2, 1) := by decide +kernel
theorem d_X12_bestStart_5 : decode cX12_bestStart 5 = .ok (.aload_n 0, 1) := by decide +kernel
theorem d_X12_bestStart_6 : decode cX12_bestStart 6 = .ok (.getfield 125, 3) := by decide +kernel
theorem d_X12_bestStart_9 : decode cX12_bestStart 9 = .ok (.if_icmp .ge 28, 3) := by decide +kernel
theorem d_X12_bestStart_12 : decode cX12_bestStart 12 = .ok (.aload_n 0, 1) := by decide +kernel
theorem d_X12_bestStart_13 : decode cX12_bestStart 13 = .ok (.iload_n 2, 1) := by decide +kernel
theorem d_X12_bestStart_14 : decode cX12_bestStart 14 = .ok (.invokevirtual 172, 3) := by decide +kernel
theorem d_X12_bestStart_17 : decode cX12_bestStart 17 = .ok (.aload_n 0, 1) := by decide +kernel
theorem d_X12_bestStart_18 : decode cX12_bestStart 18 = .ok (.iload_n 1, 1) := by decide +kernel
theorem d_X12_bestStart_19 : decode cX12_bestStart 19 = .ok (.invokevirtual 172, 3) := by decide +kernel
theorem d_X12_bestStart_22 : decode cX12_bestStart 22 = .ok (.if_icmp .le 7, 3) := by decide +kernel
theorem d_X12_bestStart_25 : decode cX12_bestStart 25 = .ok (.iload_n 2, 1) := by decide +kernel
theorem d_X12_bestStart_26 : decode cX12_bestStart 26 = .ok (.goto 4, 3) := by decide +kernel
theorem d_X12_bestStart_29 : decode cX12_bestStart 29 = .ok (.iload_n 1, 1) := by decide +kernel
theorem d_X12_bestStart_30 : decode cX12_bestStart 30 = .ok (.istore_n 1, 1) := by decide +kernel
theorem d_X12_bestStart_31 : decode cX12_bestStart 31 = .ok (.iinc 2 1, 3) := by decide +kernel
theorem d_X12_bestStart_34 : decode cX12_bestStart 34 = .ok (.goto (-30), 3) := by decide +kernel
theorem d_X12_bestStart_37 : decode cX12_bestStart 37 = .ok (.iload_n 1, 1) := by decide +kernel
theorem d_X12_bestStart_38 : decode cX12_bestStart 38 = .ok (.ireturn, 1) := by decide +kernel
def f_X12_bestStart_30 (F : Nat) (kb4 : Int32 → Int32 → sm_M → Option (Int32 × sm_M)) (x2 : Int32) (y0 : Int32) (M : sm_M) : Option (Int32 × sm_M) := kb4 y0 (x2 + 1) M
set_option maxRecDepth 100000 in
set_option maxHeartbeats 4000000 in
theorem j_X12_bestStart_30 {sk : List sm_Sh} (hx : sm_ext skM sk) (F : Nat) (kb4 : Int32 → Int32 → sm_M → Option (Int32 × sm_M)) (hkb4 : ∀ (x1 : Int32) (x2 : Int32) (M : sm_M) (r : Int32 × sm_M), kb4 x1 x2 M = some r → sm_J (md_X12_bestStart, 4, sk, .inl (some (.int r.1)), r.2) 4 [some (.ref 80), some (.int x1), some (.int x2)] [] M) : ∀ (x2 : Int32) (y0 : Int32) (M : sm_M) (r : Int32 × sm_M), f_X12_bestStart_30 F kb4 x2 y0 M = some r → sm_J (md_X12_bestStart, 4, sk, .inl (some (.int r.1)), r.2) 30 [some (.ref 80), none, some (.int x2)] [.int y0] M := by
  intro x2 y0  M r h
  unfold f_X12_bestStart_30 at h
  refine sm_istore_n (q := 31) (lt := [some (.ref 80), some (.int y0), some (.int x2)]) d_X12_bestStart_30 rfl (Nat.le_of_ble_eq_true rfl) rfl rfl ?_
  refine sm_iinc (q := 34) (v := (x2 + 1)) (lt := [some (.ref 80), some (.int y0), some (.int (x2 + 1))]) d_X12_bestStart_31 rfl rfl (ii_1 _) (Nat.le_of_ble_eq_true rfl) rfl rfl ?_
  refine sm_goto (t := 4) d_X12_bestStart_34 rfl ?_
  exact hkb4 y0 (x2 + 1) M _ h
def f_X12_bestStart_4b (F : Nat) (kb4 : Int32 → Int32 → sm_M → Option (Int32 × sm_M)) (x1 : Int32) (x2 : Int32) (M : sm_M) : Option (Int32 × sm_M) := if (M.1 80 12) ≤ x2 then (some (x1, M)) else ((f_X12_runFrom F x2 M).bind fun q2 => (f_X12_runFrom F x1 q2.2).bind fun q3 => if q2.1 ≤ q3.1 then (f_X12_bestStart_30 F kb4 x2 x1 q3.2) else (f_X12_bestStart_30 F kb4 x2 x2 q3.2))
set_option maxRecDepth 100000 in
set_option maxHeartbeats 4000000 in
theorem j_X12_bestStart_4b {sk : List sm_Sh} (hx : sm_ext skM sk) (F : Nat) (kb4 : Int32 → Int32 → sm_M → Option (Int32 × sm_M)) (hkb4 : ∀ (x1 : Int32) (x2 : Int32) (M : sm_M) (r : Int32 × sm_M), kb4 x1 x2 M = some r → sm_J (md_X12_bestStart, 4, sk, .inl (some (.int r.1)), r.2) 4 [some (.ref 80), some (.int x1), some (.int x2)] [] M) : ∀ (x1 : Int32) (x2 : Int32) (M : sm_M) (r : Int32 × sm_M), f_X12_bestStart_4b F kb4 x1 x2 M = some r → sm_J (md_X12_bestStart, 4, sk, .inl (some (.int r.1)), r.2) 4 [some (.ref 80), some (.int x1), some (.int x2)] [] M := by
  intro x1 x2  M r h
  unfold f_X12_bestStart_4b at h
  refine sm_iload_n (q := 5) d_X12_bestStart_4 rfl rfl ?_
  refine sm_aload_n (q := 6) d_X12_bestStart_5 rfl rfl ?_
  refine sm_geti (q := 9) d_X12_bestStart_6 rfl fl_X12_125 (hx sx_80) rfl ?_
  refine sm_icmp_ge (q := 12) (t := 37) d_X12_bestStart_9 rfl rfl (fun c1 => ?_) (fun c1 => ?_)
  · replace h := sm_it c1 h
    refine sm_iload_n (q := 38) d_X12_bestStart_37 rfl rfl ?_
    obtain rfl := Option.some.inj h
    exact sm_iret d_X12_bestStart_38 rfl rfl rfl rfl
  · replace h := sm_if c1 h
    refine sm_aload_n (q := 13) d_X12_bestStart_12 rfl rfl ?_
    refine sm_iload_n (q := 14) d_X12_bestStart_13 rfl rfl ?_
    obtain ⟨q2, e2, h⟩ := sm_bd h
    refine sm_callV (q := 17) (d' := 3) [] [.int x2] d_X12_bestStart_14 rfl lk_X12_172 (hx sx_80) rfl rfl rfl (Nat.le_of_ble_eq_true rfl) (Nat.le_of_ble_eq_true rfl) (c_X12_runFrom hx F x2 M _ e2) (st9 := [.int q2.1]) rfl ?_
    refine sm_aload_n (q := 18) d_X12_bestStart_17 rfl rfl ?_
    refine sm_iload_n (q := 19) d_X12_bestStart_18 rfl rfl ?_
    obtain ⟨q3, e3, h⟩ := sm_bd h
    refine sm_callV (q := 22) (d' := 3) [.int q2.1] [.int x1] d_X12_bestStart_19 rfl lk_X12_172 (hx sx_80) rfl rfl rfl (Nat.le_of_ble_eq_true rfl) (Nat.le_of_ble_eq_true rfl) (c_X12_runFrom hx F x1 q2.2 _ e3) (st9 := [.int q3.1, .int q2.1]) rfl ?_
    refine sm_icmp_le (q := 25) (t := 29) d_X12_bestStart_22 rfl rfl (fun c4 => ?_) (fun c4 => ?_)
    · replace h := sm_it c4 h
      refine sm_iload_n (q := 30) d_X12_bestStart_29 rfl rfl ?_
      refine sm_fg [1] ?_
      exact j_X12_bestStart_30 hx F kb4 hkb4 x2 x1 q3.2 _ h
    · replace h := sm_if c4 h
      refine sm_iload_n (q := 26) d_X12_bestStart_25 rfl rfl ?_
      refine sm_goto (t := 30) d_X12_bestStart_26 rfl ?_
      refine sm_fg [1] ?_
      exact j_X12_bestStart_30 hx F kb4 hkb4 x2 x2 q3.2 _ h
def f_X12_bestStart_4 (F : Nat) (n : Nat) : Int32 → Int32 → sm_M → Option (Int32 × sm_M) := match n with
 | 0 => fun _ _ _ => none
 | n + 1 => f_X12_bestStart_4b F (f_X12_bestStart_4 F n)
theorem j_X12_bestStart_4 {sk : List sm_Sh} (hx : sm_ext skM sk) (F : Nat) : ∀ (n : Nat) (x1 : Int32) (x2 : Int32) (M : sm_M) (r : Int32 × sm_M), f_X12_bestStart_4 F n x1 x2 M = some r → sm_J (md_X12_bestStart, 4, sk, .inl (some (.int r.1)), r.2) 4 [some (.ref 80), some (.int x1), some (.int x2)] [] M := by
  intro n
  induction n with
  | zero => intro x1 x2  M r h; exact nomatch (show (none : Option (Int32 × sm_M)) = some r from h)
  | succ n ih => exact j_X12_bestStart_4b hx F (f_X12_bestStart_4 F n) ih
def f_X12_bestStart (F : Nat) (M : sm_M) : Option (Int32 × sm_M) := f_X12_bestStart_4 F F (0 : Int32) (1 : Int32) M
set_option maxRecDepth 100000 in
set_option maxHeartbeats 4000000 in
theorem j_X12_bestStart {sk : List sm_Sh} (hx : sm_ext skM sk) (F : Nat) : ∀ (M : sm_M) (r : Int32 × sm_M), f_X12_bestStart F M = some r → sm_J (md_X12_bestStart, 4, sk, .inl (some (.int r.1)), r.2) 0 [some (.ref 80), none, none] [] M := by
  intro   M r h
  unfold f_X12_bestStart at h
  refine sm_iconst (q := 1) d_X12_bestStart_0 rfl ci_0 ?_
  refine sm_istore_n (q := 2) (lt := [some (.ref 80), some (.int (0 : Int32)), none]) d_X12_bestStart_1 rfl (Nat.le_of_ble_eq_true rfl) rfl rfl ?_
  refine sm_iconst (q := 3) d_X12_bestStart_2 rfl ci_1 ?_
  refine sm_istore_n (q := 4) (lt := [some (.ref 80), some (.int (0 : Int32)), some (.int (1 : Int32))]) d_X12_bestStart_3 rfl (Nat.le_of_ble_eq_true rfl) rfl rfl ?_
  exact j_X12_bestStart_4 hx F F (0 : Int32) (1 : Int32) M _ h
theorem c_X12_bestStart {sk : List sm_Sh} (hx : sm_ext skM sk) (F : Nat) (M : sm_M) (r : Int32 × sm_M) (h : f_X12_bestStart F M = some r) : sm_Ct yX12_bestStart md_X12_bestStart 4 sk [.ref 80] M (.inl (some (.int r.1))) r.2 := sm_enter 2 pn_X12 rfl (Nat.le_of_ble_eq_true rfl) rfl (j_X12_bestStart hx F M r h)
/-! UniversalCyclesModel.longestRun()I -/
theorem d_X12_longestRun_0 : decode cX12_longestRun 0 = .ok (.aload_n 0, 1) := by decide +kernel
theorem d_X12_longestRun_1 : decode cX12_longestRun 1 = .ok (.iconst 0, 1) := by decide +kernel
theorem d_X12_longestRun_2 : decode cX12_longestRun 2 = .ok (.putfield 1, 3) := by decide +kernel
theorem d_X12_longestRun_5 : decode cX12_longestRun 5 = .ok (.aload_n 0, 1) := by decide +kernel
theorem d_X12_longestRun_6 : decode cX12_longestRun 6 = .ok (.getfield 125, 3) := by decide +kernel
theorem d_X12_longestRun_9 : decode cX12_longestRun 9 = .ok (.ifCond .ne 7, 3) := by decide +kernel
theorem d_X12_longestRun_12 : decode cX12_longestRun 12 = .ok (.iconst 0, 1) := by decide +kernel
theorem d_X12_longestRun_13 : decode cX12_longestRun 13 = .ok (.goto 11, 3) := by decide +kernel
theorem d_X12_longestRun_16 : decode cX12_longestRun 16 = .ok (.aload_n 0, 1) := by decide +kernel
theorem d_X12_longestRun_17 : decode cX12_longestRun 17 = .ok (.aload_n 0, 1) := by decide +kernel
theorem d_X12_longestRun_18 : decode cX12_longestRun 18 = .ok (.invokevirtual 175, 3) := by decide +kernel
theorem d_X12_longestRun_21 : decode cX12_longestRun 21 = .ok (.invokevirtual 172, 3) := by decide +kernel
theorem d_X12_longestRun_24 : decode cX12_longestRun 24 = .ok (.ireturn, 1) := by decide +kernel
def f_X12_longestRun_24 (F : Nat) (y0 : Int32) (M : sm_M) : Option (Int32 × sm_M) := some (y0, M)
set_option maxRecDepth 100000 in
set_option maxHeartbeats 4000000 in
theorem j_X12_longestRun_24 {sk : List sm_Sh} (hx : sm_ext skM sk) (F : Nat) : ∀ (y0 : Int32) (M : sm_M) (r : Int32 × sm_M), f_X12_longestRun_24 F y0 M = some r → sm_J (md_X12_longestRun, 5, sk, .inl (some (.int r.1)), r.2) 24 [none] [.int y0] M := by
  intro y0  M r h
  unfold f_X12_longestRun_24 at h
  obtain rfl := Option.some.inj h
  exact sm_iret d_X12_longestRun_24 rfl rfl rfl rfl
def f_X12_longestRun (F : Nat) (M : sm_M) : Option (Int32 × sm_M) := if (((sm_mi M 80 0 (0 : Int32))).1 80 12) = 0 then (f_X12_longestRun_24 F (0 : Int32) ((sm_mi M 80 0 (0 : Int32)))) else ((f_X12_bestStart F (sm_mi M 80 0 (0 : Int32))).bind fun q2 => (f_X12_runFrom F q2.1 q2.2).bind fun q3 => f_X12_longestRun_24 F q3.1 q3.2)
set_option maxRecDepth 100000 in
set_option maxHeartbeats 4000000 in
theorem j_X12_longestRun {sk : List sm_Sh} (hx : sm_ext skM sk) (F : Nat) : ∀ (M : sm_M) (r : Int32 × sm_M), f_X12_longestRun F M = some r → sm_J (md_X12_longestRun, 5, sk, .inl (some (.int r.1)), r.2) 0 [some (.ref 80)] [] M := by
  intro   M r h
  unfold f_X12_longestRun at h
  refine sm_aload_n (q := 1) d_X12_longestRun_0 rfl rfl ?_
  refine sm_iconst (q := 2) d_X12_longestRun_1 rfl ci_0 ?_
  refine sm_puti (q := 5) d_X12_longestRun_2 rfl fw_X12_1 (hx sx_80) rfl rfl rfl ?_
  refine sm_aload_n (q := 6) d_X12_longestRun_5 rfl rfl ?_
  refine sm_geti (q := 9) d_X12_longestRun_6 rfl fl_X12_125 (hx sx_80) rfl ?_
  refine sm_if_ne (q := 12) (t := 16) d_X12_longestRun_9 rfl rfl (fun c1 => ?_) (fun c1 => ?_)
  · replace h := sm_if c1 h
    refine sm_aload_n (q := 17) d_X12_longestRun_16 rfl rfl ?_
    refine sm_aload_n (q := 18) d_X12_longestRun_17 rfl rfl ?_
    obtain ⟨q2, e2, h⟩ := sm_bd h
    refine sm_callV (q := 21) (d' := 4) [.ref 80] [] d_X12_longestRun_18 rfl lk_X12_175 (hx sx_80) rfl rfl rfl (Nat.le_of_ble_eq_true rfl) (Nat.le_of_ble_eq_true rfl) (c_X12_bestStart hx F (sm_mi M 80 0 (0 : Int32)) _ e2) (st9 := [.int q2.1, .ref 80]) rfl ?_
    obtain ⟨q3, e3, h⟩ := sm_bd h
    refine sm_callV (q := 24) (d' := 3) [] [.int q2.1] d_X12_longestRun_21 rfl lk_X12_172 (hx sx_80) rfl rfl rfl (Nat.le_of_ble_eq_true rfl) (Nat.le_of_ble_eq_true rfl) (c_X12_runFrom hx F q2.1 q2.2 _ e3) (st9 := [.int q3.1]) rfl ?_
    refine sm_fg [0] ?_
    exact j_X12_longestRun_24 hx F q3.1 q3.2 _ h
  · replace h := sm_it c1 h
    refine sm_iconst (q := 13) d_X12_longestRun_12 rfl ci_0 ?_
    refine sm_goto (t := 24) d_X12_longestRun_13 rfl ?_
    refine sm_fg [0] ?_
    exact j_X12_longestRun_24 hx F (0 : Int32) ((sm_mi M 80 0 (0 : Int32))) _ h
theorem c_X12_longestRun {sk : List sm_Sh} (hx : sm_ext skM sk) (F : Nat) (M : sm_M) (r : Int32 × sm_M) (h : f_X12_longestRun F M = some r) : sm_Ct yX12_longestRun md_X12_longestRun 5 sk [.ref 80] M (.inl (some (.int r.1))) r.2 := sm_enter 0 pn_X12 rfl (Nat.le_of_ble_eq_true rfl) rfl (j_X12_longestRun hx F M r h)
/-! UniversalCyclesModel.longestRunStart()I -/
theorem d_X12_longestRunStart_0 : decode cX12_longestRunStart 0 = .ok (.aload_n 0, 1) := by decide +kernel
theorem d_X12_longestRunStart_1 : decode cX12_longestRunStart 1 = .ok (.iconst 0, 1) := by decide +kernel
theorem d_X12_longestRunStart_2 : decode cX12_longestRunStart 2 = .ok (.putfield 1, 3) := by decide +kernel
theorem d_X12_longestRunStart_5 : decode cX12_longestRunStart 5 = .ok (.aload_n 0, 1) := by decide +kernel
theorem d_X12_longestRunStart_6 : decode cX12_longestRunStart 6 = .ok (.getfield 125, 3) := by decide +kernel
theorem d_X12_longestRunStart_9 : decode cX12_longestRunStart 9 = .ok (.ifCond .ne 11, 3) := by decide +kernel
theorem d_X12_longestRunStart_12 : decode cX12_longestRunStart 12 = .ok (.aload_n 0, 1) := by decide +kernel
theorem d_X12_longestRunStart_13 : decode cX12_longestRunStart 13 = .ok (.iconst 1, 1) := by decide +kernel
theorem d_X12_longestRunStart_14 : decode cX12_longestRunStart 14 = .ok (.invokevirtual 122, 3) := by decide +kernel
theorem d_X12_longestRunStart_17 : decode cX12_longestRunStart 17 = .ok (.goto 7, 3) := by decide +kernel
theorem d_X12_longestRunStart_20 : decode cX12_longestRunStart 20 = .ok (.aload_n 0, 1) := by decide +kernel
theorem d_X12_longestRunStart_21 : decode cX12_longestRunStart 21 = .ok (.invokevirtual 175, 3) := by decide +kernel
theorem d_X12_longestRunStart_24 : decode cX12_longestRunStart 24 = .ok (.ireturn, 1) := by decide +kernel
def f_X12_longestRunStart_24 (F : Nat) (y0 : Int32) (M : sm_M) : Option (Int32 × sm_M) := some (y0, M)
set_option maxRecDepth 100000 in
set_option maxHeartbeats 4000000 in
theorem j_X12_longestRunStart_24 {sk : List sm_Sh} (hx : sm_ext skM sk) (F : Nat) : ∀ (y0 : Int32) (M : sm_M) (r : Int32 × sm_M), f_X12_longestRunStart_24 F y0 M = some r → sm_J (md_X12_longestRunStart, 5, sk, .inl (some (.int r.1)), r.2) 24 [none] [.int y0] M := by
  intro y0  M r h
  unfold f_X12_longestRunStart_24 at h
  obtain rfl := Option.some.inj h
  exact sm_iret d_X12_longestRunStart_24 rfl rfl rfl rfl
def f_X12_longestRunStart (F : Nat) (M : sm_M) : Option (Int32 × sm_M) := if (((sm_mi M 80 0 (0 : Int32))).1 80 12) = 0 then ((f_X12_fail F (1 : Int32) (sm_mi M 80 0 (0 : Int32))).bind fun q3 => f_X12_longestRunStart_24 F q3.1 q3.2) else ((f_X12_bestStart F (sm_mi M 80 0 (0 : Int32))).bind fun q2 => f_X12_longestRunStart_24 F q2.1 q2.2)
set_option maxRecDepth 100000 in
set_option maxHeartbeats 4000000 in
theorem j_X12_longestRunStart {sk : List sm_Sh} (hx : sm_ext skM sk) (F : Nat) : ∀ (M : sm_M) (r : Int32 × sm_M), f_X12_longestRunStart F M = some r → sm_J (md_X12_longestRunStart, 5, sk, .inl (some (.int r.1)), r.2) 0 [some (.ref 80)] [] M := by
  intro   M r h
  unfold f_X12_longestRunStart at h
  refine sm_aload_n (q := 1) d_X12_longestRunStart_0 rfl rfl ?_
  refine sm_iconst (q := 2) d_X12_longestRunStart_1 rfl ci_0 ?_
  refine sm_puti (q := 5) d_X12_longestRunStart_2 rfl fw_X12_1 (hx sx_80) rfl rfl rfl ?_
  refine sm_aload_n (q := 6) d_X12_longestRunStart_5 rfl rfl ?_
  refine sm_geti (q := 9) d_X12_longestRunStart_6 rfl fl_X12_125 (hx sx_80) rfl ?_
  refine sm_if_ne (q := 12) (t := 20) d_X12_longestRunStart_9 rfl rfl (fun c1 => ?_) (fun c1 => ?_)
  · replace h := sm_if c1 h
    refine sm_aload_n (q := 21) d_X12_longestRunStart_20 rfl rfl ?_
    obtain ⟨q2, e2, h⟩ := sm_bd h
    refine sm_callV (q := 24) (d' := 4) [] [] d_X12_longestRunStart_21 rfl lk_X12_175 (hx sx_80) rfl rfl rfl (Nat.le_of_ble_eq_true rfl) (Nat.le_of_ble_eq_true rfl) (c_X12_bestStart hx F (sm_mi M 80 0 (0 : Int32)) _ e2) (st9 := [.int q2.1]) rfl ?_
    refine sm_fg [0] ?_
    exact j_X12_longestRunStart_24 hx F q2.1 q2.2 _ h
  · replace h := sm_it c1 h
    refine sm_aload_n (q := 13) d_X12_longestRunStart_12 rfl rfl ?_
    refine sm_iconst (q := 14) d_X12_longestRunStart_13 rfl ci_1 ?_
    obtain ⟨q3, e3, h⟩ := sm_bd h
    refine sm_callV (q := 17) (d' := 0) [] [.int (1 : Int32)] d_X12_longestRunStart_14 rfl lk_X12_122 (hx sx_80) rfl rfl rfl (Nat.le_of_ble_eq_true rfl) (Nat.le_of_ble_eq_true rfl) (c_X12_fail hx F (1 : Int32) (sm_mi M 80 0 (0 : Int32)) _ e3) (st9 := [.int q3.1]) rfl ?_
    refine sm_goto (t := 24) d_X12_longestRunStart_17 rfl ?_
    refine sm_fg [0] ?_
    exact j_X12_longestRunStart_24 hx F q3.1 q3.2 _ h
theorem c_X12_longestRunStart {sk : List sm_Sh} (hx : sm_ext skM sk) (F : Nat) (M : sm_M) (r : Int32 × sm_M) (h : f_X12_longestRunStart F M = some r) : sm_Ct yX12_longestRunStart md_X12_longestRunStart 5 sk [.ref 80] M (.inl (some (.int r.1))) r.2 := sm_enter 0 pn_X12 rfl (Nat.le_of_ble_eq_true rfl) rfl (j_X12_longestRunStart hx F M r h)
/-! UniversalCyclesModel.lessThan(I)I -/
theorem d_X12_lessThan_0 : decode cX12_lessThan 0 = .ok (.iconst 0, 1) := by decide +kernel
theorem d_X12_lessThan_1 : decode cX12_lessThan 1 = .ok (.istore_n 2, 1) := by decide +kernel
theorem d_X12_lessThan_2 : decode cX12_lessThan 2 = .ok (.iconst 0, 1) := by decide +kernel
theorem d_X12_lessThan_3 : decode cX12_lessThan 3 = .ok (.istore_n 3, 1) := by decide +kernel
theorem d_X12_lessThan_4 : decode cX12_lessThan 4 = .ok (.iload_n 3, 1) := by decide +kernel
theorem d_X12_lessThan_5 : decode cX12_lessThan 5 = .ok (.iload_n 1, 1) := by decide +kernel
theorem d_X12_lessThan_6 : decode cX12_lessThan 6 = .ok (.if_icmp .ge 66, 3) := by decide +kernel
theorem d_X12_lessThan_9 : decode cX12_lessThan 9 = .ok (.iconst 0, 1) := by decide +kernel
theorem d_X12_lessThan_10 : decode cX12_lessThan 10 = .ok (.istore 4, 2) := by decide +kernel
theorem d_X12_lessThan_12 : decode cX12_lessThan 12 = .ok (.iconst 0, 1) := by decide +kernel
theorem d_X12_lessThan_13 : decode cX12_lessThan 13 = .ok (.istore 5, 2) := by decide +kernel
theorem d_X12_lessThan_15 : decode cX12_lessThan 15 = .ok (.iload 5, 2) := by decide +kernel
theorem d_X12_lessThan_17 : decode cX12_lessThan 17 = .ok (.aload_n 0, 1) := by decide +kernel
theorem d_X12_lessThan_18 : decode cX12_lessThan 18 = .ok (.getfield 125, 3) := by decide +kernel
theorem d_X12_lessThan_21 : decode cX12_lessThan 21 = .ok (.if_icmp .ge 32, 3) := by decide +kernel
theorem d_X12_lessThan_24 : decode cX12_lessThan 24 = .ok (.iload 4, 2) := by decide +kernel
theorem d_X12_lessThan_26 : decode cX12_lessThan 26 = .ok (.ifCond .ne 14, 3) := by decide +kernel
theorem d_X12_lessThan_29 : decode cX12_lessThan 29 = .ok (.aload_n 0, 1) := by decide +kernel
theorem d_X12_lessThan_30 : decode cX12_lessThan 30 = .ok (.getfield 36, 3) := by decide +kernel
theorem d_X12_lessThan_33 : decode cX12_lessThan 33 = .ok (.iload 5, 2) := by decide +kernel
theorem d_X12_lessThan_35 : decode cX12_lessThan 35 = .ok (.iaload, 1) := by decide +kernel
theorem d_X12_lessThan_36 : decode cX12_lessThan 36 = .ok (.iload_n 3, 1) := by decide +kernel
theorem d_X12_lessThan_37 : decode cX12_lessThan 37 = .ok (.if_icmp .ne 7, 3) := by decide +kernel
theorem d_X12_lessThan_40 : decode cX12_lessThan 40 = .ok (.iconst 1, 1) := by decide +kernel
theorem d_X12_lessThan_41 : decode cX12_lessThan 41 = .ok (.goto 4, 3) := by decide +kernel
theorem d_X12_lessThan_44 : decode cX12_lessThan 44 = .ok (.iconst 0, 1) := by decide +kernel
theorem d_X12_lessThan_45 : decode cX12_lessThan 45 = .ok (.istore 4, 2) := by decide +kernel
theorem d_X12_lessThan_47 : decode cX12_lessThan 47 = .ok (.iinc 5 1, 3) := by decide +kernel
theorem d_X12_lessThan_50 : decode cX12_lessThan 50 = .ok (.goto (-35), 3) := by decide +kernel
theorem d_X12_lessThan_53 : decode cX12_lessThan 53 = .ok (.iload_n 2, 1) := by decide +kernel
theorem d_X12_lessThan_54 : decode cX12_lessThan 54 = .ok (.iload 4, 2) := by decide +kernel
theorem d_X12_lessThan_56 : decode cX12_lessThan 56 = .ok (.ifCond .eq 7, 3) := by decide +kernel
theorem d_X12_lessThan_59 : decode cX12_lessThan 59 = .ok (.iconst 1, 1) := by decide +kernel
theorem d_X12_lessThan_60 : decode cX12_lessThan 60 = .ok (.goto 4, 3) := by decide +kernel
theorem d_X12_lessThan_63 : decode cX12_lessThan 63 = .ok (.iconst 0, 1) := by decide +kernel
theorem d_X12_lessThan_64 : decode cX12_lessThan 64 = .ok (.iadd, 1) := by decide +kernel
theorem d_X12_lessThan_65 : decode cX12_lessThan 65 = .ok (.istore_n 2, 1) := by decide +kernel
theorem d_X12_lessThan_66 : decode cX12_lessThan 66 = .ok (.iinc 3 1, 3) := by decide +kernel
theorem d_X12_lessThan_69 : decode cX12_lessThan 69 = .ok (.goto (-65), 3) := by decide +kernel
theorem d_X12_lessThan_72 : decode cX12_lessThan 72 = .ok (.iload_n 2, 1) := by decide +kernel
theorem d_X12_lessThan_73 : decode cX12_lessThan 73 = .ok (.ireturn, 1) := by decide +kernel
def f_X12_lessThan_45 (F : Nat) (kb4 : Int32 → Int32 → Int32 → sm_M → Option (Int32)) (kb15 : Int32 → Int32 → Int32 → Int32 → Int32 → sm_M → Option (Int32)) (x1 : Int32) (x2 : Int32) (x3 : Int32) (x5 : Int32) (y0 : Int32) (M : sm_M) : Option (Int32) := kb15 x1 x2 x3 y0 (x5 + 1) M
set_option maxRecDepth 100000 in
set_option maxHeartbeats 4000000 in
theorem j_X12_lessThan_45 {sk : List sm_Sh} (hx : sm_ext skM sk) (F : Nat) (kb4 : Int32 → Int32 → Int32 → sm_M → Option (Int32)) (kb15 : Int32 → Int32 → Int32 → Int32 → Int32 → sm_M → Option (Int32)) (hkb4 : ∀ (x1 : Int32) (x2 : Int32) (x3 : Int32) (M : sm_M) (r : Int32), kb4 x1 x2 x3 M = some r → sm_J (md_X12_lessThan, 0, sk, .inl (some (.int r)), M) 4 [some (.ref 80), some (.int x1), some (.int x2), some (.int x3), none, none] [] M) (hkb15 : ∀ (x1 : Int32) (x2 : Int32) (x3 : Int32) (x4 : Int32) (x5 : Int32) (M : sm_M) (r : Int32), kb15 x1 x2 x3 x4 x5 M = some r → sm_J (md_X12_lessThan, 0, sk, .inl (some (.int r)), M) 15 [some (.ref 80), some (.int x1), some (.int x2), some (.int x3), some (.int x4), some (.int x5)] [] M) : ∀ (x1 : Int32) (x2 : Int32) (x3 : Int32) (x5 : Int32) (y0 : Int32) (M : sm_M) (r : Int32), f_X12_lessThan_45 F kb4 kb15 x1 x2 x3 x5 y0 M = some r → sm_J (md_X12_lessThan, 0, sk, .inl (some (.int r)), M) 45 [some (.ref 80), some (.int x1), some (.int x2), some (.int x3), none, some (.int x5)] [.int y0] M := by
  intro x1 x2 x3 x5 y0  M r h
  unfold f_X12_lessThan_45 at h
  refine sm_istore (q := 47) (lt := [some (.ref 80), some (.int x1), some (.int x2), some (.int x3), some (.int y0), some (.int x5)]) d_X12_lessThan_45 rfl (Nat.le_of_ble_eq_true rfl) rfl rfl ?_
  refine sm_iinc (q := 50) (v := (x5 + 1)) (lt := [some (.ref 80), some (.int x1), some (.int x2), some (.int x3), some (.int y0), some (.int (x5 + 1))]) d_X12_lessThan_47 rfl rfl (ii_1 _) (Nat.le_of_ble_eq_true rfl) rfl rfl ?_
  refine sm_goto (t := 15) d_X12_lessThan_50 rfl ?_
  exact hkb15 x1 x2 x3 y0 (x5 + 1) M _ h
def f_X12_lessThan_40 (F : Nat) (kb4 : Int32 → Int32 → Int32 → sm_M → Option (Int32)) (kb15 : Int32 → Int32 → Int32 → Int32 → Int32 → sm_M → Option (Int32)) (x1 : Int32) (x2 : Int32) (x3 : Int32) (x5 : Int32) (M : sm_M) : Option (Int32) := f_X12_lessThan_45 F kb4 kb15 x1 x2 x3 x5 (1 : Int32) M
set_option maxRecDepth 100000 in
set_option maxHeartbeats 4000000 in
theorem j_X12_lessThan_40 {sk : List sm_Sh} (hx : sm_ext skM sk) (F : Nat) (kb4 : Int32 → Int32 → Int32 → sm_M → Option (Int32)) (kb15 : Int32 → Int32 → Int32 → Int32 → Int32 → sm_M → Option (Int32)) (hkb4 : ∀ (x1 : Int32) (x2 : Int32) (x3 : Int32) (M : sm_M) (r : Int32), kb4 x1 x2 x3 M = some r → sm_J (md_X12_lessThan, 0, sk, .inl (some (.int r)), M) 4 [some (.ref 80), some (.int x1), some (.int x2), some (.int x3), none, none] [] M) (hkb15 : ∀ (x1 : Int32) (x2 : Int32) (x3 : Int32) (x4 : Int32) (x5 : Int32) (M : sm_M) (r : Int32), kb15 x1 x2 x3 x4 x5 M = some r → sm_J (md_X12_lessThan, 0, sk, .inl (some (.int r)), M) 15 [some (.ref 80), some (.int x1), some (.int x2), some (.int x3), some (.int x4), some (.int x5)] [] M) : ∀ (x1 : Int32) (x2 : Int32) (x3 : Int32) (x5 : Int32) (M : sm_M) (r : Int32), f_X12_lessThan_40 F kb4 kb15 x1 x2 x3 x5 M = some r → sm_J (md_X12_lessThan, 0, sk, .inl (some (.int r)), M) 40 [some (.ref 80), some (.int x1), some (.int x2), some (.int x3), none, some (.int x5)] [] M := by
  intro x1 x2 x3 x5  M r h
  unfold f_X12_lessThan_40 at h
  refine sm_iconst (q := 41) d_X12_lessThan_40 rfl ci_1 ?_
  refine sm_goto (t := 45) d_X12_lessThan_41 rfl ?_
  exact j_X12_lessThan_45 hx F kb4 kb15 hkb4 hkb15 x1 x2 x3 x5 (1 : Int32) M _ h
def f_X12_lessThan_64 (F : Nat) (kb4 : Int32 → Int32 → Int32 → sm_M → Option (Int32)) (x1 : Int32) (x3 : Int32) (y0 : Int32) (y1 : Int32) (M : sm_M) : Option (Int32) := kb4 x1 (y0 + y1) (x3 + 1) M
set_option maxRecDepth 100000 in
set_option maxHeartbeats 4000000 in
theorem j_X12_lessThan_64 {sk : List sm_Sh} (hx : sm_ext skM sk) (F : Nat) (kb4 : Int32 → Int32 → Int32 → sm_M → Option (Int32)) (hkb4 : ∀ (x1 : Int32) (x2 : Int32) (x3 : Int32) (M : sm_M) (r : Int32), kb4 x1 x2 x3 M = some r → sm_J (md_X12_lessThan, 0, sk, .inl (some (.int r)), M) 4 [some (.ref 80), some (.int x1), some (.int x2), some (.int x3), none, none] [] M) : ∀ (x1 : Int32) (x3 : Int32) (y0 : Int32) (y1 : Int32) (M : sm_M) (r : Int32), f_X12_lessThan_64 F kb4 x1 x3 y0 y1 M = some r → sm_J (md_X12_lessThan, 0, sk, .inl (some (.int r)), M) 64 [some (.ref 80), some (.int x1), none, some (.int x3), none, none] [.int y1, .int y0] M := by
  intro x1 x3 y0 y1  M r h
  unfold f_X12_lessThan_64 at h
  refine sm_iadd (q := 65) d_X12_lessThan_64 rfl ?_
  refine sm_istore_n (q := 66) (lt := [some (.ref 80), some (.int x1), some (.int (y0 + y1)), some (.int x3), none, none]) d_X12_lessThan_65 rfl (Nat.le_of_ble_eq_true rfl) rfl rfl ?_
  refine sm_iinc (q := 69) (v := (x3 + 1)) (lt := [some (.ref 80), some (.int x1), some (.int (y0 + y1)), some (.int (x3 + 1)), none, none]) d_X12_lessThan_66 rfl rfl (ii_1 _) (Nat.le_of_ble_eq_true rfl) rfl rfl ?_
  refine sm_goto (t := 4) d_X12_lessThan_69 rfl ?_
  exact hkb4 x1 (y0 + y1) (x3 + 1) M _ h
def f_X12_lessThan_15b (F : Nat) (kb4 : Int32 → Int32 → Int32 → sm_M → Option (Int32)) (kb15 : Int32 → Int32 → Int32 → Int32 → Int32 → sm_M → Option (Int32)) (x1 : Int32) (x2 : Int32) (x3 : Int32) (x4 : Int32) (x5 : Int32) (M : sm_M) : Option (Int32) := if (M.1 80 12) ≤ x5 then (if x4 = 0 then (f_X12_lessThan_64 F kb4 x1 x3 x2 (0 : Int32) M) else (f_X12_lessThan_64 F kb4 x1 x3 x2 (1 : Int32) M)) else (if x4 = 0 then (sm_g (sm_ib x5 240) (if (M.1 86 x5.toNatClampNeg) = x3 then (f_X12_lessThan_40 F kb4 kb15 x1 x2 x3 x5 M) else (f_X12_lessThan_45 F kb4 kb15 x1 x2 x3 x5 (0 : Int32) M))) else (f_X12_lessThan_40 F kb4 kb15 x1 x2 x3 x5 M))
set_option maxRecDepth 100000 in
set_option maxHeartbeats 4000000 in
theorem j_X12_lessThan_15b {sk : List sm_Sh} (hx : sm_ext skM sk) (F : Nat) (kb4 : Int32 → Int32 → Int32 → sm_M → Option (Int32)) (kb15 : Int32 → Int32 → Int32 → Int32 → Int32 → sm_M → Option (Int32)) (hkb4 : ∀ (x1 : Int32) (x2 : Int32) (x3 : Int32) (M : sm_M) (r : Int32), kb4 x1 x2 x3 M = some r → sm_J (md_X12_lessThan, 0, sk, .inl (some (.int r)), M) 4 [some (.ref 80), some (.int x1), some (.int x2), some (.int x3), none, none] [] M) (hkb15 : ∀ (x1 : Int32) (x2 : Int32) (x3 : Int32) (x4 : Int32) (x5 : Int32) (M : sm_M) (r : Int32), kb15 x1 x2 x3 x4 x5 M = some r → sm_J (md_X12_lessThan, 0, sk, .inl (some (.int r)), M) 15 [some (.ref 80), some (.int x1), some (.int x2), some (.int x3), some (.int x4), some (.int x5)] [] M) : ∀ (x1 : Int32) (x2 : Int32) (x3 : Int32) (x4 : Int32) (x5 : Int32) (M : sm_M) (r : Int32), f_X12_lessThan_15b F kb4 kb15 x1 x2 x3 x4 x5 M = some r → sm_J (md_X12_lessThan, 0, sk, .inl (some (.int r)), M) 15 [some (.ref 80), some (.int x1), some (.int x2), some (.int x3), some (.int x4), some (.int x5)] [] M := by
  intro x1 x2 x3 x4 x5  M r h
  unfold f_X12_lessThan_15b at h
  refine sm_iload (q := 17) d_X12_lessThan_15 rfl rfl ?_
  refine sm_aload_n (q := 18) d_X12_lessThan_17 rfl rfl ?_
  refine sm_geti (q := 21) d_X12_lessThan_18 rfl fl_X12_125 (hx sx_80) rfl ?_
  refine sm_icmp_ge (q := 24) (t := 53) d_X12_lessThan_21 rfl rfl (fun c1 => ?_) (fun c1 => ?_)
  · replace h := sm_it c1 h
    refine sm_iload_n (q := 54) d_X12_lessThan_53 rfl rfl ?_
    refine sm_iload (q := 56) d_X12_lessThan_54 rfl rfl ?_
    refine sm_if_eq (q := 59) (t := 63) d_X12_lessThan_56 rfl rfl (fun c2 => ?_) (fun c2 => ?_)
    · replace h := sm_it c2 h
      refine sm_iconst (q := 64) d_X12_lessThan_63 rfl ci_0 ?_
      refine sm_fg [2, 4, 5] ?_
      exact j_X12_lessThan_64 hx F kb4 hkb4 x1 x3 x2 (0 : Int32) M _ h
    · replace h := sm_if c2 h
      refine sm_iconst (q := 60) d_X12_lessThan_59 rfl ci_1 ?_
      refine sm_goto (t := 64) d_X12_lessThan_60 rfl ?_
      refine sm_fg [2, 4, 5] ?_
      exact j_X12_lessThan_64 hx F kb4 hkb4 x1 x3 x2 (1 : Int32) M _ h
  · replace h := sm_if c1 h
    refine sm_iload (q := 26) d_X12_lessThan_24 rfl rfl ?_
    refine sm_if_ne (q := 29) (t := 40) d_X12_lessThan_26 rfl rfl (fun c3 => ?_) (fun c3 => ?_)
    · replace h := sm_if c3 h
      refine sm_fg [4] ?_
      exact j_X12_lessThan_40 hx F kb4 kb15 hkb4 hkb15 x1 x2 x3 x5 M _ h
    · replace h := sm_it c3 h
      refine sm_aload_n (q := 30) d_X12_lessThan_29 rfl rfl ?_
      refine sm_getr (q := 33) d_X12_lessThan_30 rfl fl_X12_36 (hx sx_80) rfl ?_
      refine sm_iload (q := 35) d_X12_lessThan_33 rfl rfl ?_
      obtain ⟨g4, h⟩ := sm_gt h
      refine sm_iaload (q := 36) d_X12_lessThan_35 rfl (hx sx_86) (sm_ib_of g4) ?_
      refine sm_iload_n (q := 37) d_X12_lessThan_36 rfl rfl ?_
      refine sm_icmp_ne (q := 40) (t := 44) d_X12_lessThan_37 rfl rfl (fun c5 => ?_) (fun c5 => ?_)
      · replace h := sm_if c5 h
        refine sm_iconst (q := 45) d_X12_lessThan_44 rfl ci_0 ?_
        refine sm_fg [4] ?_
        exact j_X12_lessThan_45 hx F kb4 kb15 hkb4 hkb15 x1 x2 x3 x5 (0 : Int32) M _ h
      · replace h := sm_it c5 h
        refine sm_fg [4] ?_
        exact j_X12_lessThan_40 hx F kb4 kb15 hkb4 hkb15 x1 x2 x3 x5 M _ h
def f_X12_lessThan_15 (F : Nat) (kb4 : Int32 → Int32 → Int32 → sm_M → Option (Int32)) (n : Nat) : Int32 → Int32 → Int32 → Int32 → Int32 → sm_M → Option (Int32) := match n with
 | 0 => fun _ _ _ _ _ _ => none
 | n + 1 => f_X12_lessThan_15b F kb4 (f_X12_lessThan_15 F kb4 n)
theorem j_X12_lessThan_15 {sk : List sm_Sh} (hx : sm_ext skM sk) (F : Nat) (kb4 : Int32 → Int32 → Int32 → sm_M → Option (Int32)) (hkb4 : ∀ (x1 : Int32) (x2 : Int32) (x3 : Int32) (M : sm_M) (r : Int32), kb4 x1 x2 x3 M = some r → sm_J (md_X12_lessThan, 0, sk, .inl (some (.int r)), M) 4 [some (.ref 80), some (.int x1), some (.int x2), some (.int x3), none, none] [] M) : ∀ (n : Nat) (x1 : Int32) (x2 : Int32) (x3 : Int32) (x4 : Int32) (x5 : Int32) (M : sm_M) (r : Int32), f_X12_lessThan_15 F kb4 n x1 x2 x3 x4 x5 M = some r → sm_J (md_X12_lessThan, 0, sk, .inl (some (.int r)), M) 15 [some (.ref 80), some (.int x1), some (.int x2), some (.int x3), some (.int x4), some (.int x5)] [] M := by
  intro n
  induction n with
  | zero => intro x1 x2 x3 x4 x5  M r h; exact nomatch (show (none : Option (Int32)) = some r from h)
  | succ n ih => exact j_X12_lessThan_15b hx F kb4 (f_X12_lessThan_15 F kb4 n) hkb4 ih
def f_X12_lessThan_4b (F : Nat) (kb4 : Int32 → Int32 → Int32 → sm_M → Option (Int32)) (x1 : Int32) (x2 : Int32) (x3 : Int32) (M : sm_M) : Option (Int32) := if x1 ≤ x3 then (some x2) else (f_X12_lessThan_15 F kb4 F x1 x2 x3 (0 : Int32) (0 : Int32) M)
set_option maxRecDepth 100000 in
set_option maxHeartbeats 4000000 in
theorem j_X12_lessThan_4b {sk : List sm_Sh} (hx : sm_ext skM sk) (F : Nat) (kb4 : Int32 → Int32 → Int32 → sm_M → Option (Int32)) (hkb4 : ∀ (x1 : Int32) (x2 : Int32) (x3 : Int32) (M : sm_M) (r : Int32), kb4 x1 x2 x3 M = some r → sm_J (md_X12_lessThan, 0, sk, .inl (some (.int r)), M) 4 [some (.ref 80), some (.int x1), some (.int x2), some (.int x3), none, none] [] M) : ∀ (x1 : Int32) (x2 : Int32) (x3 : Int32) (M : sm_M) (r : Int32), f_X12_lessThan_4b F kb4 x1 x2 x3 M = some r → sm_J (md_X12_lessThan, 0, sk, .inl (some (.int r)), M) 4 [some (.ref 80), some (.int x1), some (.int x2), some (.int x3), none, none] [] M := by
  intro x1 x2 x3  M r h
  unfold f_X12_lessThan_4b at h
  refine sm_iload_n (q := 5) d_X12_lessThan_4 rfl rfl ?_
  refine sm_iload_n (q := 6) d_X12_lessThan_5 rfl rfl ?_
  refine sm_icmp_ge (q := 9) (t := 72) d_X12_lessThan_6 rfl rfl (fun c1 => ?_) (fun c1 => ?_)
  · replace h := sm_it c1 h
    refine sm_iload_n (q := 73) d_X12_lessThan_72 rfl rfl ?_
    obtain rfl := Option.some.inj h
    exact sm_iret d_X12_lessThan_73 rfl rfl rfl rfl
  · replace h := sm_if c1 h
    refine sm_iconst (q := 10) d_X12_lessThan_9 rfl ci_0 ?_
    refine sm_istore (q := 12) (lt := [some (.ref 80), some (.int x1), some (.int x2), some (.int x3), some (.int (0 : Int32)), none]) d_X12_lessThan_10 rfl (Nat.le_of_ble_eq_true rfl) rfl rfl ?_
    refine sm_iconst (q := 13) d_X12_lessThan_12 rfl ci_0 ?_
    refine sm_istore (q := 15) (lt := [some (.ref 80), some (.int x1), some (.int x2), some (.int x3), some (.int (0 : Int32)), some (.int (0 : Int32))]) d_X12_lessThan_13 rfl (Nat.le_of_ble_eq_true rfl) rfl rfl ?_
    exact j_X12_lessThan_15 hx F kb4 hkb4 F x1 x2 x3 (0 : Int32) (0 : Int32) M _ h
def f_X12_lessThan_4 (F : Nat) (n : Nat) : Int32 → Int32 → Int32 → sm_M → Option (Int32) := match n with
 | 0 => fun _ _ _ _ => none
 | n + 1 => f_X12_lessThan_4b F (f_X12_lessThan_4 F n)
theorem j_X12_lessThan_4 {sk : List sm_Sh} (hx : sm_ext skM sk) (F : Nat) : ∀ (n : Nat) (x1 : Int32) (x2 : Int32) (x3 : Int32) (M : sm_M) (r : Int32), f_X12_lessThan_4 F n x1 x2 x3 M = some r → sm_J (md_X12_lessThan, 0, sk, .inl (some (.int r)), M) 4 [some (.ref 80), some (.int x1), some (.int x2), some (.int x3), none, none] [] M := by
  intro n
  induction n with
  | zero => intro x1 x2 x3  M r h; exact nomatch (show (none : Option (Int32)) = some r from h)
  | succ n ih => exact j_X12_lessThan_4b hx F (f_X12_lessThan_4 F n) ih
def f_X12_lessThan (F : Nat) (x1 : Int32) (M : sm_M) : Option (Int32) := f_X12_lessThan_4 F F x1 (0 : Int32) (0 : Int32) M
set_option maxRecDepth 100000 in
set_option maxHeartbeats 4000000 in
theorem j_X12_lessThan {sk : List sm_Sh} (hx : sm_ext skM sk) (F : Nat) : ∀ (x1 : Int32) (M : sm_M) (r : Int32), f_X12_lessThan F x1 M = some r → sm_J (md_X12_lessThan, 0, sk, .inl (some (.int r)), M) 0 [some (.ref 80), some (.int x1), none, none, none, none] [] M := by
  intro x1  M r h
  unfold f_X12_lessThan at h
  refine sm_iconst (q := 1) d_X12_lessThan_0 rfl ci_0 ?_
  refine sm_istore_n (q := 2) (lt := [some (.ref 80), some (.int x1), some (.int (0 : Int32)), none, none, none]) d_X12_lessThan_1 rfl (Nat.le_of_ble_eq_true rfl) rfl rfl ?_
  refine sm_iconst (q := 3) d_X12_lessThan_2 rfl ci_0 ?_
  refine sm_istore_n (q := 4) (lt := [some (.ref 80), some (.int x1), some (.int (0 : Int32)), some (.int (0 : Int32)), none, none]) d_X12_lessThan_3 rfl (Nat.le_of_ble_eq_true rfl) rfl rfl ?_
  exact j_X12_lessThan_4 hx F F x1 (0 : Int32) (0 : Int32) M _ h
theorem c_X12_lessThan {sk : List sm_Sh} (hx : sm_ext skM sk) (F : Nat) (x1 : Int32) (M : sm_M) (r : Int32) (h : f_X12_lessThan F x1 M = some r) : sm_Ct yX12_lessThan md_X12_lessThan 0 sk [.ref 80, .int x1] M (.inl (some (.int r))) M := sm_enter 4 pn_X12 rfl (Nat.le_of_ble_eq_true rfl) rfl (j_X12_lessThan hx F x1 M r h)
/-! UniversalCyclesModel.distinctSymbols()I -/
theorem d_X12_distinctSymbols_0 : decode cX12_distinctSymbols 0 = .ok (.aload_n 0, 1) := by decide +kernel
theorem d_X12_distinctSymbols_1 : decode cX12_distinctSymbols 1 = .ok (.iconst 0, 1) := by decide +kernel
theorem d_X12_distinctSymbols_2 : decode cX12_distinctSymbols 2 = .ok (.putfield 1, 3) := by decide +kernel
theorem d_X12_distinctSymbols_5 : decode cX12_distinctSymbols 5 = .ok (.aload_n 0, 1) := by decide +kernel
theorem d_X12_distinctSymbols_6 : decode cX12_distinctSymbols 6 = .ok (.bipush 8, 2) := by decide +kernel
theorem d_X12_distinctSymbols_8 : decode cX12_distinctSymbols 8 = .ok (.invokevirtual 178, 3) := by decide +kernel
theorem d_X12_distinctSymbols_11 : decode cX12_distinctSymbols 11 = .ok (.ireturn, 1) := by decide +kernel
def f_X12_distinctSymbols (F : Nat) (M : sm_M) : Option (Int32 × sm_M) := (f_X12_lessThan F (8 : Int32) (sm_mi M 80 0 (0 : Int32))).bind fun q1 => some (q1, (sm_mi M 80 0 (0 : Int32)))
set_option maxRecDepth 100000 in
set_option maxHeartbeats 4000000 in
theorem j_X12_distinctSymbols {sk : List sm_Sh} (hx : sm_ext skM sk) (F : Nat) : ∀ (M : sm_M) (r : Int32 × sm_M), f_X12_distinctSymbols F M = some r → sm_J (md_X12_distinctSymbols, 1, sk, .inl (some (.int r.1)), r.2) 0 [some (.ref 80)] [] M := by
  intro   M r h
  unfold f_X12_distinctSymbols at h
  refine sm_aload_n (q := 1) d_X12_distinctSymbols_0 rfl rfl ?_
  refine sm_iconst (q := 2) d_X12_distinctSymbols_1 rfl ci_0 ?_
  refine sm_puti (q := 5) d_X12_distinctSymbols_2 rfl fw_X12_1 (hx sx_80) rfl rfl rfl ?_
  refine sm_aload_n (q := 6) d_X12_distinctSymbols_5 rfl rfl ?_
  refine sm_bipush (q := 8) d_X12_distinctSymbols_6 rfl cb_8 ?_
  obtain ⟨q1, e1, h⟩ := sm_bd h
  refine sm_callV (q := 11) (d' := 0) [] [.int (8 : Int32)] d_X12_distinctSymbols_8 rfl lk_X12_178 (hx sx_80) rfl rfl rfl (Nat.le_of_ble_eq_true rfl) (Nat.le_of_ble_eq_true rfl) (c_X12_lessThan hx F (8 : Int32) (sm_mi M 80 0 (0 : Int32)) _ e1) (st9 := [.int q1]) rfl ?_
  obtain rfl := Option.some.inj h
  exact sm_iret d_X12_distinctSymbols_11 rfl rfl rfl rfl
theorem c_X12_distinctSymbols {sk : List sm_Sh} (hx : sm_ext skM sk) (F : Nat) (M : sm_M) (r : Int32 × sm_M) (h : f_X12_distinctSymbols F M = some r) : sm_Ct yX12_distinctSymbols md_X12_distinctSymbols 1 sk [.ref 80] M (.inl (some (.int r.1))) r.2 := sm_enter 0 pn_X12 rfl (Nat.le_of_ble_eq_true rfl) rfl (j_X12_distinctSymbols hx F M r h)
/-! UniversalCyclesModel.compress()I -/
theorem d_X12_compress_0 : decode cX12_compress 0 = .ok (.aload_n 0, 1) := by decide +kernel
theorem d_X12_compress_1 : decode cX12_compress 1 = .ok (.iconst 0, 1) := by decide +kernel
theorem d_X12_compress_2 : decode cX12_compress 2 = .ok (.putfield 1, 3) := by decide +kernel
theorem d_X12_compress_5 : decode cX12_compress 5 = .ok (.iconst 0, 1) := by decide +kernel
theorem d_X12_compress_6 : decode cX12_compress 6 = .ok (.istore_n 1, 1) := by decide +kernel
theorem d_X12_compress_7 : decode cX12_compress 7 = .ok (.iload_n 1, 1) := by decide +kernel
theorem d_X12_compress_8 : decode cX12_compress 8 = .ok (.aload_n 0, 1) := by decide +kernel
theorem d_X12_compress_9 : decode cX12_compress 9 = .ok (.getfield 125, 3) := by decide +kernel
theorem d_X12_compress_12 : decode cX12_compress 12 = .ok (.if_icmp .ge 25, 3) := by decide +kernel
theorem d_X12_compress_15 : decode cX12_compress 15 = .ok (.aload_n 0, 1) := by decide +kernel
theorem d_X12_compress_16 : decode cX12_compress 16 = .ok (.getfield 45, 3) := by decide +kernel
theorem d_X12_compress_19 : decode cX12_compress 19 = .ok (.iload_n 1, 1) := by decide +kernel
theorem d_X12_compress_20 : decode cX12_compress 20 = .ok (.aload_n 0, 1) := by decide +kernel
theorem d_X12_compress_21 : decode cX12_compress 21 = .ok (.aload_n 0, 1) := by decide +kernel
theorem d_X12_compress_22 : decode cX12_compress 22 = .ok (.getfield 36, 3) := by decide +kernel
theorem d_X12_compress_25 : decode cX12_compress 25 = .ok (.iload_n 1, 1) := by decide +kernel
theorem d_X12_compress_26 : decode cX12_compress 26 = .ok (.iaload, 1) := by decide +kernel
theorem d_X12_compress_27 : decode cX12_compress 27 = .ok (.invokevirtual 178, 3) := by decide +kernel
theorem d_X12_compress_30 : decode cX12_compress 30 = .ok (.iastore, 1) := by decide +kernel
theorem d_X12_compress_31 : decode cX12_compress 31 = .ok (.iinc 1 1, 3) := by decide +kernel
theorem d_X12_compress_34 : decode cX12_compress 34 = .ok (.goto (-27), 3) := by decide +kernel
theorem d_X12_compress_37 : decode cX12_compress 37 = .ok (.aload_n 0, 1) := by decide +kernel
theorem d_X12_compress_38 : decode cX12_compress 38 = .ok (.bipush 8, 2) := by decide +kernel
theorem d_X12_compress_40 : decode cX12_compress 40 = .ok (.invokevirtual 178, 3) := by decide +kernel
theorem d_X12_compress_43 : decode cX12_compress 43 = .ok (.istore_n 1, 1) := by decide +kernel
theorem d_X12_compress_44 : decode cX12_compress 44 = .ok (.aload_n 0, 1) := by decide +kernel
theorem d_X12_compress_45 : decode cX12_compress 45 = .ok (.aload_n 0, 1) := by decide +kernel
theorem d_X12_compress_46 : decode cX12_compress 46 = .ok (.getfield 125, 3) := by decide +kernel
theorem d_X12_compress_49 : decode cX12_compress 49 = .ok (.invokevirtual 144, 3) := by decide +kernel
theorem d_X12_compress_52 : decode cX12_compress 52 = .ok (.iload_n 1, 1) := by decide +kernel
theorem d_X12_compress_53 : decode cX12_compress 53 = .ok (.ireturn, 1) := by decide +kernel
def f_X12_compress_7b (F : Nat) (kb7 : Int32 → sm_M → Option (Int32 × sm_M)) (x1 : Int32) (M : sm_M) : Option (Int32 × sm_M) := if (M.1 80 12) ≤ x1 then ((f_X12_lessThan F (8 : Int32) M).bind fun q2 => (f_X12_replace F (M.1 80 12) M).bind fun q3 => some (q2, q3)) else (sm_g (sm_ib x1 240) ((f_X12_lessThan F (M.1 86 x1.toNatClampNeg) M).bind fun q5 => sm_g (sm_ib x1 240) (kb7 (x1 + 1) ((sm_mi M 89 x1.toNatClampNeg q5)))))
set_option maxRecDepth 100000 in
set_option maxHeartbeats 4000000 in
theorem j_X12_compress_7b {sk : List sm_Sh} (hx : sm_ext skM sk) (F : Nat) (kb7 : Int32 → sm_M → Option (Int32 × sm_M)) (hkb7 : ∀ (x1 : Int32) (M : sm_M) (r : Int32 × sm_M), kb7 x1 M = some r → sm_J (md_X12_compress, 2, sk, .inl (some (.int r.1)), r.2) 7 [some (.ref 80), some (.int x1)] [] M) : ∀ (x1 : Int32) (M : sm_M) (r : Int32 × sm_M), f_X12_compress_7b F kb7 x1 M = some r → sm_J (md_X12_compress, 2, sk, .inl (some (.int r.1)), r.2) 7 [some (.ref 80), some (.int x1)] [] M := by
  intro x1  M r h
  unfold f_X12_compress_7b at h
  refine sm_iload_n (q := 8) d_X12_compress_7 rfl rfl ?_
  refine sm_aload_n (q := 9) d_X12_compress_8 rfl rfl ?_
  refine sm_geti (q := 12) d_X12_compress_9 rfl fl_X12_125 (hx sx_80) rfl ?_
  refine sm_icmp_ge (q := 15) (t := 37) d_X12_compress_12 rfl rfl (fun c1 => ?_) (fun c1 => ?_)
  · replace h := sm_it c1 h
    refine sm_aload_n (q := 38) d_X12_compress_37 rfl rfl ?_
    refine sm_bipush (q := 40) d_X12_compress_38 rfl cb_8 ?_
    obtain ⟨q2, e2, h⟩ := sm_bd h
    refine sm_callV (q := 43) (d' := 0) [] [.int (8 : Int32)] d_X12_compress_40 rfl lk_X12_178 (hx sx_80) rfl rfl rfl (Nat.le_of_ble_eq_true rfl) (Nat.le_of_ble_eq_true rfl) (c_X12_lessThan hx F (8 : Int32) M _ e2) (st9 := [.int q2]) rfl ?_
    refine sm_istore_n (q := 44) (lt := [some (.ref 80), some (.int q2)]) d_X12_compress_43 rfl (Nat.le_of_ble_eq_true rfl) rfl rfl ?_
    refine sm_aload_n (q := 45) d_X12_compress_44 rfl rfl ?_
    refine sm_aload_n (q := 46) d_X12_compress_45 rfl rfl ?_
    refine sm_geti (q := 49) d_X12_compress_46 rfl fl_X12_125 (hx sx_80) rfl ?_
    obtain ⟨q3, e3, h⟩ := sm_bd h
    refine sm_callV (q := 52) (d' := 1) [] [.int (M.1 80 12)] d_X12_compress_49 rfl lk_X12_144 (hx sx_80) rfl rfl rfl (Nat.le_of_ble_eq_true rfl) (Nat.le_of_ble_eq_true rfl) (c_X12_replace hx F (M.1 80 12) M _ e3) (st9 := []) rfl ?_
    refine sm_iload_n (q := 53) d_X12_compress_52 rfl rfl ?_
    obtain rfl := Option.some.inj h
    exact sm_iret d_X12_compress_53 rfl rfl rfl rfl
  · replace h := sm_if c1 h
    refine sm_aload_n (q := 16) d_X12_compress_15 rfl rfl ?_
    refine sm_getr (q := 19) d_X12_compress_16 rfl fl_X12_45 (hx sx_80) rfl ?_
    refine sm_iload_n (q := 20) d_X12_compress_19 rfl rfl ?_
    refine sm_aload_n (q := 21) d_X12_compress_20 rfl rfl ?_
    refine sm_aload_n (q := 22) d_X12_compress_21 rfl rfl ?_
    refine sm_getr (q := 25) d_X12_compress_22 rfl fl_X12_36 (hx sx_80) rfl ?_
    refine sm_iload_n (q := 26) d_X12_compress_25 rfl rfl ?_
    obtain ⟨g4, h⟩ := sm_gt h
    refine sm_iaload (q := 27) d_X12_compress_26 rfl (hx sx_86) (sm_ib_of g4) ?_
    obtain ⟨q5, e5, h⟩ := sm_bd h
    refine sm_callV (q := 30) (d' := 0) [.int x1, .ref 89] [.int (M.1 86 x1.toNatClampNeg)] d_X12_compress_27 rfl lk_X12_178 (hx sx_80) rfl rfl rfl (Nat.le_of_ble_eq_true rfl) (Nat.le_of_ble_eq_true rfl) (c_X12_lessThan hx F (M.1 86 x1.toNatClampNeg) M _ e5) (st9 := [.int q5, .int x1, .ref 89]) rfl ?_
    obtain ⟨g6, h⟩ := sm_gt h
    refine sm_iastore (q := 31) d_X12_compress_30 rfl (hx sx_89) (sm_ib_of g6) ?_
    refine sm_iinc (q := 34) (v := (x1 + 1)) (lt := [some (.ref 80), some (.int (x1 + 1))]) d_X12_compress_31 rfl rfl (ii_1 _) (Nat.le_of_ble_eq_true rfl) rfl rfl ?_
    refine sm_goto (t := 7) d_X12_compress_34 rfl ?_
    exact hkb7 (x1 + 1) ((sm_mi M 89 x1.toNatClampNeg q5)) _ h
def f_X12_compress_7 (F : Nat) (n : Nat) : Int32 → sm_M → Option (Int32 × sm_M) := match n with
 | 0 => fun _ _ => none
 | n + 1 => f_X12_compress_7b F (f_X12_compress_7 F n)
theorem j_X12_compress_7 {sk : List sm_Sh} (hx : sm_ext skM sk) (F : Nat) : ∀ (n : Nat) (x1 : Int32) (M : sm_M) (r : Int32 × sm_M), f_X12_compress_7 F n x1 M = some r → sm_J (md_X12_compress, 2, sk, .inl (some (.int r.1)), r.2) 7 [some (.ref 80), some (.int x1)] [] M := by
  intro n
  induction n with
  | zero => intro x1  M r h; exact nomatch (show (none : Option (Int32 × sm_M)) = some r from h)
  | succ n ih => exact j_X12_compress_7b hx F (f_X12_compress_7 F n) ih
def f_X12_compress (F : Nat) (M : sm_M) : Option (Int32 × sm_M) := f_X12_compress_7 F F (0 : Int32) ((sm_mi M 80 0 (0 : Int32)))
set_option maxRecDepth 100000 in
set_option maxHeartbeats 4000000 in
theorem j_X12_compress {sk : List sm_Sh} (hx : sm_ext skM sk) (F : Nat) : ∀ (M : sm_M) (r : Int32 × sm_M), f_X12_compress F M = some r → sm_J (md_X12_compress, 2, sk, .inl (some (.int r.1)), r.2) 0 [some (.ref 80), none] [] M := by
  intro   M r h
  unfold f_X12_compress at h
  refine sm_aload_n (q := 1) d_X12_compress_0 rfl rfl ?_
  refine sm_iconst (q := 2) d_X12_compress_1 rfl ci_0 ?_
  refine sm_puti (q := 5) d_X12_compress_2 rfl fw_X12_1 (hx sx_80) rfl rfl rfl ?_
  refine sm_iconst (q := 6) d_X12_compress_5 rfl ci_0 ?_
  refine sm_istore_n (q := 7) (lt := [some (.ref 80), some (.int (0 : Int32))]) d_X12_compress_6 rfl (Nat.le_of_ble_eq_true rfl) rfl rfl ?_
  exact j_X12_compress_7 hx F F (0 : Int32) ((sm_mi M 80 0 (0 : Int32))) _ h
theorem c_X12_compress {sk : List sm_Sh} (hx : sm_ext skM sk) (F : Nat) (M : sm_M) (r : Int32 × sm_M) (h : f_X12_compress F M = some r) : sm_Ct yX12_compress md_X12_compress 2 sk [.ref 80] M (.inl (some (.int r.1))) r.2 := sm_enter 1 pn_X12 rfl (Nat.le_of_ble_eq_true rfl) rfl (j_X12_compress hx F M r h)
/-! UniversalCyclesModel.makeRotated(I)V -/
theorem d_X12_makeRotated_0 : decode cX12_makeRotated 0 = .ok (.iconst 0, 1) := by decide +kernel
theorem d_X12_makeRotated_1 : decode cX12_makeRotated 1 = .ok (.istore_n 2, 1) := by decide +kernel
theorem d_X12_makeRotated_2 : decode cX12_makeRotated 2 = .ok (.iload_n 2, 1) := by decide +kernel
theorem d_X12_makeRotated_3 : decode cX12_makeRotated 3 = .ok (.aload_n 0, 1) := by decide +kernel
theorem d_X12_makeRotated_4 : decode cX12_makeRotated 4 = .ok (.getfield 125, 3) := by decide +kernel
theorem d_X12_makeRotated_7 : decode cX12_makeRotated 7 = .ok (.if_icmp .ge 28, 3) := by decide +kernel
theorem d_X12_makeRotated_10 : decode cX12_makeRotated 10 = .ok (.aload_n 0, 1) := by decide +kernel
theorem d_X12_makeRotated_11 : decode cX12_makeRotated 11 = .ok (.getfield 45, 3) := by decide +kernel
theorem d_X12_makeRotated_14 : decode cX12_makeRotated 14 = .ok (.iload_n 2, 1) := by decide +kernel
theorem d_X12_makeRotated_15 : decode cX12_makeRotated 15 = .ok (.aload_n 0, 1) := by decide +kernel
theorem d_X12_makeRotated_16 : decode cX12_makeRotated 16 = .ok (.getfield 36, 3) := by decide +kernel
theorem d_X12_makeRotated_19 : decode cX12_makeRotated 19 = .ok (.iload_n 1, 1) := by decide +kernel
theorem d_X12_makeRotated_20 : decode cX12_makeRotated 20 = .ok (.iload_n 2, 1) := by decide +kernel
theorem d_X12_makeRotated_21 : decode cX12_makeRotated 21 = .ok (.iadd, 1) := by decide +kernel
theorem d_X12_makeRotated_22 : decode cX12_makeRotated 22 = .ok (.aload_n 0, 1) := by decide +kernel
theorem d_X12_makeRotated_23 : decode cX12_makeRotated 23 = .ok (.getfield 125, 3) := by decide +kernel
theorem d_X12_makeRotated_26 : decode cX12_makeRotated 26 = .ok (.irem, 1) := by decide +kernel
theorem d_X12_makeRotated_27 : decode cX12_makeRotated 27 = .ok (.iaload, 1) := by decide +kernel
theorem d_X12_makeRotated_28 : decode cX12_makeRotated 28 = .ok (.iastore, 1) := by decide +kernel
theorem d_X12_makeRotated_29 : decode cX12_makeRotated 29 = .ok (.iinc 2 1, 3) := by decide +kernel
theorem d_X12_makeRotated_32 : decode cX12_makeRotated 32 = .ok (.goto (-30), 3) := by decide +kernel
theorem d_X12_makeRotated_35 : decode cX12_makeRotated 35 = .ok (.return_, 1) := by decide +kernel
def f_X12_makeRotated_2b (F : Nat) (kb2 : Int32 → Int32 → sm_M → Option (sm_M)) (x1 : Int32) (x2 : Int32) (M : sm_M) : Option (sm_M) := if (M.1 80 12) ≤ x2 then (some M) else (sm_g (sm_nz (M.1 80 12)) (sm_g (sm_ib ((x1 + x2) - (x1 + x2) / (M.1 80 12) * (M.1 80 12)) 240) (sm_g (sm_ib x2 240) (kb2 x1 (x2 + 1) ((sm_mi M 89 x2.toNatClampNeg (M.1 86 ((x1 + x2) - (x1 + x2) / (M.1 80 12) * (M.1 80 12)).toNatClampNeg)))))))
set_option maxRecDepth 100000 in
set_option maxHeartbeats 4000000 in
theorem j_X12_makeRotated_2b {sk : List sm_Sh} (hx : sm_ext skM sk) (F : Nat) (kb2 : Int32 → Int32 → sm_M → Option (sm_M)) (hkb2 : ∀ (x1 : Int32) (x2 : Int32) (M : sm_M) (r : sm_M), kb2 x1 x2 M = some r → sm_J (md_X12_makeRotated, 0, sk, .inl none, r) 2 [some (.ref 80), some (.int x1), some (.int x2)] [] M) : ∀ (x1 : Int32) (x2 : Int32) (M : sm_M) (r : sm_M), f_X12_makeRotated_2b F kb2 x1 x2 M = some r → sm_J (md_X12_makeRotated, 0, sk, .inl none, r) 2 [some (.ref 80), some (.int x1), some (.int x2)] [] M := by
  intro x1 x2  M r h
  unfold f_X12_makeRotated_2b at h
  refine sm_iload_n (q := 3) d_X12_makeRotated_2 rfl rfl ?_
  refine sm_aload_n (q := 4) d_X12_makeRotated_3 rfl rfl ?_
  refine sm_geti (q := 7) d_X12_makeRotated_4 rfl fl_X12_125 (hx sx_80) rfl ?_
  refine sm_icmp_ge (q := 10) (t := 35) d_X12_makeRotated_7 rfl rfl (fun c1 => ?_) (fun c1 => ?_)
  · replace h := sm_it c1 h
    obtain rfl := Option.some.inj h
    exact sm_vret d_X12_makeRotated_35 rfl rfl rfl
  · replace h := sm_if c1 h
    refine sm_aload_n (q := 11) d_X12_makeRotated_10 rfl rfl ?_
    refine sm_getr (q := 14) d_X12_makeRotated_11 rfl fl_X12_45 (hx sx_80) rfl ?_
    refine sm_iload_n (q := 15) d_X12_makeRotated_14 rfl rfl ?_
    refine sm_aload_n (q := 16) d_X12_makeRotated_15 rfl rfl ?_
    refine sm_getr (q := 19) d_X12_makeRotated_16 rfl fl_X12_36 (hx sx_80) rfl ?_
    refine sm_iload_n (q := 20) d_X12_makeRotated_19 rfl rfl ?_
    refine sm_iload_n (q := 21) d_X12_makeRotated_20 rfl rfl ?_
    refine sm_iadd (q := 22) d_X12_makeRotated_21 rfl ?_
    refine sm_aload_n (q := 23) d_X12_makeRotated_22 rfl rfl ?_
    refine sm_geti (q := 26) d_X12_makeRotated_23 rfl fl_X12_125 (hx sx_80) rfl ?_
    obtain ⟨g2, h⟩ := sm_gt h
    refine sm_irem (q := 27) d_X12_makeRotated_26 rfl (sm_nz_of g2) ?_
    obtain ⟨g3, h⟩ := sm_gt h
    refine sm_iaload (q := 28) d_X12_makeRotated_27 rfl (hx sx_86) (sm_ib_of g3) ?_
    obtain ⟨g4, h⟩ := sm_gt h
    refine sm_iastore (q := 29) d_X12_makeRotated_28 rfl (hx sx_89) (sm_ib_of g4) ?_
    refine sm_iinc (q := 32) (v := (x2 + 1)) (lt := [some (.ref 80), some (.int x1), some (.int (x2 + 1))]) d_X12_makeRotated_29 rfl rfl (ii_1 _) (Nat.le_of_ble_eq_true rfl) rfl rfl ?_
    refine sm_goto (t := 2) d_X12_makeRotated_32 rfl ?_
    exact hkb2 x1 (x2 + 1) ((sm_mi M 89 x2.toNatClampNeg (M.1 86 ((x1 + x2) - (x1 + x2) / (M.1 80 12) * (M.1 80 12)).toNatClampNeg))) _ h
def f_X12_makeRotated_2 (F : Nat) (n : Nat) : Int32 → Int32 → sm_M → Option (sm_M) := match n with
 | 0 => fun _ _ _ => none
 | n + 1 => f_X12_makeRotated_2b F (f_X12_makeRotated_2 F n)
theorem j_X12_makeRotated_2 {sk : List sm_Sh} (hx : sm_ext skM sk) (F : Nat) : ∀ (n : Nat) (x1 : Int32) (x2 : Int32) (M : sm_M) (r : sm_M), f_X12_makeRotated_2 F n x1 x2 M = some r → sm_J (md_X12_makeRotated, 0, sk, .inl none, r) 2 [some (.ref 80), some (.int x1), some (.int x2)] [] M := by
  intro n
  induction n with
  | zero => intro x1 x2  M r h; exact nomatch (show (none : Option (sm_M)) = some r from h)
  | succ n ih => exact j_X12_makeRotated_2b hx F (f_X12_makeRotated_2 F n) ih
def f_X12_makeRotated (F : Nat) (x1 : Int32) (M : sm_M) : Option (sm_M) := f_X12_makeRotated_2 F F x1 (0 : Int32) M
set_option maxRecDepth 100000 in
set_option maxHeartbeats 4000000 in
theorem j_X12_makeRotated {sk : List sm_Sh} (hx : sm_ext skM sk) (F : Nat) : ∀ (x1 : Int32) (M : sm_M) (r : sm_M), f_X12_makeRotated F x1 M = some r → sm_J (md_X12_makeRotated, 0, sk, .inl none, r) 0 [some (.ref 80), some (.int x1), none] [] M := by
  intro x1  M r h
  unfold f_X12_makeRotated at h
  refine sm_iconst (q := 1) d_X12_makeRotated_0 rfl ci_0 ?_
  refine sm_istore_n (q := 2) (lt := [some (.ref 80), some (.int x1), some (.int (0 : Int32))]) d_X12_makeRotated_1 rfl (Nat.le_of_ble_eq_true rfl) rfl rfl ?_
  exact j_X12_makeRotated_2 hx F F x1 (0 : Int32) M _ h
theorem c_X12_makeRotated {sk : List sm_Sh} (hx : sm_ext skM sk) (F : Nat) (x1 : Int32) (M : sm_M) (r : sm_M) (h : f_X12_makeRotated F x1 M = some r) : sm_Ct yX12_makeRotated md_X12_makeRotated 0 sk [.ref 80, .int x1] M (.inl none) r := sm_enter 1 pn_X12 rfl (Nat.le_of_ble_eq_true rfl) rfl (j_X12_makeRotated hx F x1 M r h)
/-! UniversalCyclesModel.rotate(I)I -/
theorem d_X12_rotate_0 : decode cX12_rotate 0 = .ok (.aload_n 0, 1) := by decide +kernel
theorem d_X12_rotate_1 : decode cX12_rotate 1 = .ok (.iconst 0, 1) := by decide +kernel
theorem d_X12_rotate_2 : decode cX12_rotate 2 = .ok (.putfield 1, 3) := by decide +kernel
theorem d_X12_rotate_5 : decode cX12_rotate 5 = .ok (.aload_n 0, 1) := by decide +kernel
theorem d_X12_rotate_6 : decode cX12_rotate 6 = .ok (.iload_n 1, 1) := by decide +kernel
theorem d_X12_rotate_7 : decode cX12_rotate 7 = .ok (.invokevirtual 141, 3) := by decide +kernel
theorem d_X12_rotate_10 : decode cX12_rotate 10 = .ok (.ifCond .ne 9, 3) := by decide +kernel
theorem d_X12_rotate_13 : decode cX12_rotate 13 = .ok (.aload_n 0, 1) := by decide +kernel
theorem d_X12_rotate_14 : decode cX12_rotate 14 = .ok (.iconst 1, 1) := by decide +kernel
theorem d_X12_rotate_15 : decode cX12_rotate 15 = .ok (.invokevirtual 122, 3) := by decide +kernel
theorem d_X12_rotate_18 : decode cX12_rotate 18 = .ok (.ireturn, 1) := by decide +kernel
theorem d_X12_rotate_19 : decode cX12_rotate 19 = .ok (.aload_n 0, 1) := by decide +kernel
theorem d_X12_rotate_20 : decode cX12_rotate 20 = .ok (.getfield 36, 3) := by decide +kernel
theorem d_X12_rotate_23 : decode cX12_rotate 23 = .ok (.iconst 0, 1) := by decide +kernel
theorem d_X12_rotate_24 : decode cX12_rotate 24 = .ok (.iaload, 1) := by decide +kernel
theorem d_X12_rotate_25 : decode cX12_rotate 25 = .ok (.istore_n 2, 1) := by decide +kernel
theorem d_X12_rotate_26 : decode cX12_rotate 26 = .ok (.aload_n 0, 1) := by decide +kernel
theorem d_X12_rotate_27 : decode cX12_rotate 27 = .ok (.iload_n 1, 1) := by decide +kernel
theorem d_X12_rotate_28 : decode cX12_rotate 28 = .ok (.invokevirtual 181, 3) := by decide +kernel
theorem d_X12_rotate_31 : decode cX12_rotate 31 = .ok (.aload_n 0, 1) := by decide +kernel
theorem d_X12_rotate_32 : decode cX12_rotate 32 = .ok (.aload_n 0, 1) := by decide +kernel
theorem d_X12_rotate_33 : decode cX12_rotate 33 = .ok (.getfield 125, 3) := by decide +kernel
theorem d_X12_rotate_36 : decode cX12_rotate 36 = .ok (.invokevirtual 144, 3) := by decide +kernel
theorem d_X12_rotate_39 : decode cX12_rotate 39 = .ok (.iload_n 2, 1) := by decide +kernel
theorem d_X12_rotate_40 : decode cX12_rotate 40 = .ok (.ireturn, 1) := by decide +kernel
def f_X12_rotate (F : Nat) (x1 : Int32) (M : sm_M) : Option (Int32 × sm_M) := (f_X12_isPosition F x1 (sm_mi M 80 0 (0 : Int32))).bind fun q1 => if q1 = 0 then ((f_X12_fail F (1 : Int32) (sm_mi M 80 0 (0 : Int32))).bind fun q5 => some (q5.1, q5.2)) else ((f_X12_makeRotated F x1 (sm_mi M 80 0 (0 : Int32))).bind fun q3 => (f_X12_replace F (q3.1 80 12) q3).bind fun q4 => some (((sm_mi M 80 0 (0 : Int32)).1 86 (0 : Int32).toNatClampNeg), q4))
set_option maxRecDepth 100000 in
set_option maxHeartbeats 4000000 in
theorem j_X12_rotate {sk : List sm_Sh} (hx : sm_ext skM sk) (F : Nat) : ∀ (x1 : Int32) (M : sm_M) (r : Int32 × sm_M), f_X12_rotate F x1 M = some r → sm_J (md_X12_rotate, 2, sk, .inl (some (.int r.1)), r.2) 0 [some (.ref 80), some (.int x1), none] [] M := by
  intro x1  M r h
  unfold f_X12_rotate at h
  refine sm_aload_n (q := 1) d_X12_rotate_0 rfl rfl ?_
  refine sm_iconst (q := 2) d_X12_rotate_1 rfl ci_0 ?_
  refine sm_puti (q := 5) d_X12_rotate_2 rfl fw_X12_1 (hx sx_80) rfl rfl rfl ?_
  refine sm_aload_n (q := 6) d_X12_rotate_5 rfl rfl ?_
  refine sm_iload_n (q := 7) d_X12_rotate_6 rfl rfl ?_
  obtain ⟨q1, e1, h⟩ := sm_bd h
  refine sm_callV (q := 10) (d' := 1) [] [.int x1] d_X12_rotate_7 rfl lk_X12_141 (hx sx_80) rfl rfl rfl (Nat.le_of_ble_eq_true rfl) (Nat.le_of_ble_eq_true rfl) (c_X12_isPosition hx F x1 (sm_mi M 80 0 (0 : Int32)) _ e1) (st9 := [.int q1]) rfl ?_
  refine sm_if_ne (q := 13) (t := 19) d_X12_rotate_10 rfl rfl (fun c2 => ?_) (fun c2 => ?_)
  · replace h := sm_if c2 h
    refine sm_aload_n (q := 20) d_X12_rotate_19 rfl rfl ?_
    refine sm_getr (q := 23) d_X12_rotate_20 rfl fl_X12_36 (hx sx_80) rfl ?_
    refine sm_iconst (q := 24) d_X12_rotate_23 rfl ci_0 ?_
    refine sm_iaload (q := 25) d_X12_rotate_24 rfl (hx sx_86) (sm_ib_of (by decide)) ?_
    refine sm_istore_n (q := 26) (lt := [some (.ref 80), some (.int x1), some (.int ((sm_mi M 80 0 (0 : Int32)).1 86 (0 : Int32).toNatClampNeg))]) d_X12_rotate_25 rfl (Nat.le_of_ble_eq_true rfl) rfl rfl ?_
    refine sm_aload_n (q := 27) d_X12_rotate_26 rfl rfl ?_
    refine sm_iload_n (q := 28) d_X12_rotate_27 rfl rfl ?_
    obtain ⟨q3, e3, h⟩ := sm_bd h
    refine sm_callV (q := 31) (d' := 0) [] [.int x1] d_X12_rotate_28 rfl lk_X12_181 (hx sx_80) rfl rfl rfl (Nat.le_of_ble_eq_true rfl) (Nat.le_of_ble_eq_true rfl) (c_X12_makeRotated hx F x1 (sm_mi M 80 0 (0 : Int32)) _ e3) (st9 := []) rfl ?_
    refine sm_aload_n (q := 32) d_X12_rotate_31 rfl rfl ?_
    refine sm_aload_n (q := 33) d_X12_rotate_32 rfl rfl ?_
    refine sm_geti (q := 36) d_X12_rotate_33 rfl fl_X12_125 (hx sx_80) rfl ?_
    obtain ⟨q4, e4, h⟩ := sm_bd h
    refine sm_callV (q := 39) (d' := 1) [] [.int (q3.1 80 12)] d_X12_rotate_36 rfl lk_X12_144 (hx sx_80) rfl rfl rfl (Nat.le_of_ble_eq_true rfl) (Nat.le_of_ble_eq_true rfl) (c_X12_replace hx F (q3.1 80 12) q3 _ e4) (st9 := []) rfl ?_
    refine sm_iload_n (q := 40) d_X12_rotate_39 rfl rfl ?_
    obtain rfl := Option.some.inj h
    exact sm_iret d_X12_rotate_40 rfl rfl rfl rfl
  · replace h := sm_it c2 h
    refine sm_aload_n (q := 14) d_X12_rotate_13 rfl rfl ?_
    refine sm_iconst (q := 15) d_X12_rotate_14 rfl ci_1 ?_
    obtain ⟨q5, e5, h⟩ := sm_bd h
    refine sm_callV (q := 18) (d' := 0) [] [.int (1 : Int32)] d_X12_rotate_15 rfl lk_X12_122 (hx sx_80) rfl rfl rfl (Nat.le_of_ble_eq_true rfl) (Nat.le_of_ble_eq_true rfl) (c_X12_fail hx F (1 : Int32) (sm_mi M 80 0 (0 : Int32)) _ e5) (st9 := [.int q5.1]) rfl ?_
    obtain rfl := Option.some.inj h
    exact sm_iret d_X12_rotate_18 rfl rfl rfl rfl
theorem c_X12_rotate {sk : List sm_Sh} (hx : sm_ext skM sk) (F : Nat) (x1 : Int32) (M : sm_M) (r : Int32 × sm_M) (h : f_X12_rotate F x1 M = some r) : sm_Ct yX12_rotate md_X12_rotate 2 sk [.ref 80, .int x1] M (.inl (some (.int r.1))) r.2 := sm_enter 1 pn_X12 rfl (Nat.le_of_ble_eq_true rfl) rfl (j_X12_rotate hx F x1 M r h)
/-! UniversalCyclesModel.isLower(II)Z -/
theorem d_X12_isLower_0 : decode cX12_isLower 0 = .ok (.iconst 0, 1) := by decide +kernel
theorem d_X12_isLower_1 : decode cX12_isLower 1 = .ok (.istore_n 3, 1) := by decide +kernel
theorem d_X12_isLower_2 : decode cX12_isLower 2 = .ok (.iload_n 3, 1) := by decide +kernel
theorem d_X12_isLower_3 : decode cX12_isLower 3 = .ok (.aload_n 0, 1) := by decide +kernel
theorem d_X12_isLower_4 : decode cX12_isLower 4 = .ok (.getfield 125, 3) := by decide +kernel
theorem d_X12_isLower_7 : decode cX12_isLower 7 = .ok (.if_icmp .ge 59, 3) := by decide +kernel
theorem d_X12_isLower_10 : decode cX12_isLower 10 = .ok (.aload_n 0, 1) := by decide +kernel
theorem d_X12_isLower_11 : decode cX12_isLower 11 = .ok (.getfield 36, 3) := by decide +kernel
theorem d_X12_isLower_14 : decode cX12_isLower 14 = .ok (.iload_n 1, 1) := by decide +kernel
theorem d_X12_isLower_15 : decode cX12_isLower 15 = .ok (.iload_n 3, 1) := by decide +kernel
theorem d_X12_isLower_16 : decode cX12_isLower 16 = .ok (.iadd, 1) := by decide +kernel
theorem d_X12_isLower_17 : decode cX12_isLower 17 = .ok (.aload_n 0, 1) := by decide +kernel
theorem d_X12_isLower_18 : decode cX12_isLower 18 = .ok (.getfield 125, 3) := by decide +kernel
theorem d_X12_isLower_21 : decode cX12_isLower 21 = .ok (.irem, 1) := by decide +kernel
theorem d_X12_isLower_22 : decode cX12_isLower 22 = .ok (.iaload, 1) := by decide +kernel
theorem d_X12_isLower_23 : decode cX12_isLower 23 = .ok (.istore 4, 2) := by decide +kernel
theorem d_X12_isLower_25 : decode cX12_isLower 25 = .ok (.aload_n 0, 1) := by decide +kernel
theorem d_X12_isLower_26 : decode cX12_isLower 26 = .ok (.getfield 36, 3) := by decide +kernel
theorem d_X12_isLower_29 : decode cX12_isLower 29 = .ok (.iload_n 2, 1) := by decide +kernel
theorem d_X12_isLower_30 : decode cX12_isLower 30 = .ok (.iload_n 3, 1) := by decide +kernel
theorem d_X12_isLower_31 : decode cX12_isLower 31 = .ok (.iadd, 1) := by decide +kernel
theorem d_X12_isLower_32 : decode cX12_isLower 32 = .ok (.aload_n 0, 1) := by decide +kernel
theorem d_X12_isLower_33 : decode cX12_isLower 33 = .ok (.getfield 125, 3) := by decide +kernel
theorem d_X12_isLower_36 : decode cX12_isLower 36 = .ok (.irem, 1) := by decide +kernel
theorem d_X12_isLower_37 : decode cX12_isLower 37 = .ok (.iaload, 1) := by decide +kernel
theorem d_X12_isLower_38 : decode cX12_isLower 38 = .ok (.istore 5, 2) := by decide +kernel
theorem d_X12_isLower_40 : decode cX12_isLower 40 = .ok (.iload 4, 2) := by decide +kernel
theorem d_X12_isLower_42 : decode cX12_isLower 42 = .ok (.iload 5, 2) := by decide +kernel
theorem d_X12_isLower_44 : decode cX12_isLower 44 = .ok (.if_icmp .eq 16, 3) := by decide +kernel
theorem d_X12_isLower_47 : decode cX12_isLower 47 = .ok (.iload 4, 2) := by decide +kernel
theorem d_X12_isLower_49 : decode cX12_isLower 49 = .ok (.iload 5, 2) := by decide +kernel
theorem d_X12_isLower_51 : decode cX12_isLower 51 = .ok (.if_icmp .ge 7, 3) := by decide +kernel
theorem d_X12_isLower_54 : decode cX12_isLower 54 = .ok (.iconst 1, 1) := by decide +kernel
theorem d_X12_isLower_55 : decode cX12_isLower 55 = .ok (.goto 4, 3) := by decide +kernel
theorem d_X12_isLower_58 : decode cX12_isLower 58 = .ok (.iconst 0, 1) := by decide +kernel
theorem d_X12_isLower_59 : decode cX12_isLower 59 = .ok (.ireturn, 1) := by decide +kernel
theorem d_X12_isLower_60 : decode cX12_isLower 60 = .ok (.iinc 3 1, 3) := by decide +kernel
theorem d_X12_isLower_63 : decode cX12_isLower 63 = .ok (.goto (-61), 3) := by decide +kernel
theorem d_X12_isLower_66 : decode cX12_isLower 66 = .ok (.iconst 0, 1) := by decide +kernel
theorem d_X12_isLower_67 : decode cX12_isLower 67 = .ok (.ireturn, 1) := by decide +kernel
def f_X12_isLower_59 (F : Nat) (y0 : Int32) (M : sm_M) : Option (Int32) := sm_g (sm_nar .boolean y0) (some y0)
set_option maxRecDepth 100000 in
set_option maxHeartbeats 4000000 in
theorem j_X12_isLower_59 {sk : List sm_Sh} (hx : sm_ext skM sk) (F : Nat) : ∀ (y0 : Int32) (M : sm_M) (r : Int32), f_X12_isLower_59 F y0 M = some r → sm_J (md_X12_isLower, 0, sk, .inl (some (.int r)), M) 59 [none, none, none, none, none, none] [.int y0] M := by
  intro y0  M r h
  unfold f_X12_isLower_59 at h
  obtain ⟨g1, h⟩ := sm_gt h
  obtain rfl := Option.some.inj h
  exact sm_iret d_X12_isLower_59 rfl (sm_nar_of g1).1 rfl rfl
def f_X12_isLower_2b (F : Nat) (kb2 : Int32 → Int32 → Int32 → sm_M → Option (Int32)) (x1 : Int32) (x2 : Int32) (x3 : Int32) (M : sm_M) : Option (Int32) := if (M.1 80 12) ≤ x3 then (some (0 : Int32)) else (sm_g (sm_nz (M.1 80 12)) (sm_g (sm_ib ((x1 + x3) - (x1 + x3) / (M.1 80 12) * (M.1 80 12)) 240) (sm_g (sm_nz (M.1 80 12)) (sm_g (sm_ib ((x2 + x3) - (x2 + x3) / (M.1 80 12) * (M.1 80 12)) 240) (if (M.1 86 ((x1 + x3) - (x1 + x3) / (M.1 80 12) * (M.1 80 12)).toNatClampNeg) = (M.1 86 ((x2 + x3) - (x2 + x3) / (M.1 80 12) * (M.1 80 12)).toNatClampNeg) then (kb2 x1 x2 (x3 + 1) M) else (if (M.1 86 ((x2 + x3) - (x2 + x3) / (M.1 80 12) * (M.1 80 12)).toNatClampNeg) ≤ (M.1 86 ((x1 + x3) - (x1 + x3) / (M.1 80 12) * (M.1 80 12)).toNatClampNeg) then (f_X12_isLower_59 F (0 : Int32) M) else (f_X12_isLower_59 F (1 : Int32) M)))))))
set_option maxRecDepth 100000 in
set_option maxHeartbeats 4000000 in
theorem j_X12_isLower_2b {sk : List sm_Sh} (hx : sm_ext skM sk) (F : Nat) (kb2 : Int32 → Int32 → Int32 → sm_M → Option (Int32)) (hkb2 : ∀ (x1 : Int32) (x2 : Int32) (x3 : Int32) (M : sm_M) (r : Int32), kb2 x1 x2 x3 M = some r → sm_J (md_X12_isLower, 0, sk, .inl (some (.int r)), M) 2 [some (.ref 80), some (.int x1), some (.int x2), some (.int x3), none, none] [] M) : ∀ (x1 : Int32) (x2 : Int32) (x3 : Int32) (M : sm_M) (r : Int32), f_X12_isLower_2b F kb2 x1 x2 x3 M = some r → sm_J (md_X12_isLower, 0, sk, .inl (some (.int r)), M) 2 [some (.ref 80), some (.int x1), some (.int x2), some (.int x3), none, none] [] M := by
  intro x1 x2 x3  M r h
  unfold f_X12_isLower_2b at h
  refine sm_iload_n (q := 3) d_X12_isLower_2 rfl rfl ?_
  refine sm_aload_n (q := 4) d_X12_isLower_3 rfl rfl ?_
  refine sm_geti (q := 7) d_X12_isLower_4 rfl fl_X12_125 (hx sx_80) rfl ?_
  refine sm_icmp_ge (q := 10) (t := 66) d_X12_isLower_7 rfl rfl (fun c1 => ?_) (fun c1 => ?_)
  · replace h := sm_it c1 h
    refine sm_iconst (q := 67) d_X12_isLower_66 rfl ci_0 ?_
    obtain rfl := Option.some.inj h
    exact sm_iret d_X12_isLower_67 rfl (by decide) rfl rfl
  · replace h := sm_if c1 h
    refine sm_aload_n (q := 11) d_X12_isLower_10 rfl rfl ?_
    refine sm_getr (q := 14) d_X12_isLower_11 rfl fl_X12_36 (hx sx_80) rfl ?_
    refine sm_iload_n (q := 15) d_X12_isLower_14 rfl rfl ?_
    refine sm_iload_n (q := 16) d_X12_isLower_15 rfl rfl ?_
    refine sm_iadd (q := 17) d_X12_isLower_16 rfl ?_
    refine sm_aload_n (q := 18) d_X12_isLower_17 rfl rfl ?_
    refine sm_geti (q := 21) d_X12_isLower_18 rfl fl_X12_125 (hx sx_80) rfl ?_
    obtain ⟨g2, h⟩ := sm_gt h
    refine sm_irem (q := 22) d_X12_isLower_21 rfl (sm_nz_of g2) ?_
    obtain ⟨g3, h⟩ := sm_gt h
    refine sm_iaload (q := 23) d_X12_isLower_22 rfl (hx sx_86) (sm_ib_of g3) ?_
    refine sm_istore (q := 25) (lt := [some (.ref 80), some (.int x1), some (.int x2), some (.int x3), some (.int (M.1 86 ((x1 + x3) - (x1 + x3) / (M.1 80 12) * (M.1 80 12)).toNatClampNeg)), none]) d_X12_isLower_23 rfl (Nat.le_of_ble_eq_true rfl) rfl rfl ?_
    refine sm_aload_n (q := 26) d_X12_isLower_25 rfl rfl ?_
    refine sm_getr (q := 29) d_X12_isLower_26 rfl fl_X12_36 (hx sx_80) rfl ?_
    refine sm_iload_n (q := 30) d_X12_isLower_29 rfl rfl ?_
    refine sm_iload_n (q := 31) d_X12_isLower_30 rfl rfl ?_
    refine sm_iadd (q := 32) d_X12_isLower_31 rfl ?_
    refine sm_aload_n (q := 33) d_X12_isLower_32 rfl rfl ?_
    refine sm_geti (q := 36) d_X12_isLower_33 rfl fl_X12_125 (hx sx_80) rfl ?_
    obtain ⟨g4, h⟩ := sm_gt h
    refine sm_irem (q := 37) d_X12_isLower_36 rfl (sm_nz_of g4) ?_
    obtain ⟨g5, h⟩ := sm_gt h
    refine sm_iaload (q := 38) d_X12_isLower_37 rfl (hx sx_86) (sm_ib_of g5) ?_
    refine sm_istore (q := 40) (lt := [some (.ref 80), some (.int x1), some (.int x2), some (.int x3), some (.int (M.1 86 ((x1 + x3) - (x1 + x3) / (M.1 80 12) * (M.1 80 12)).toNatClampNeg)), some (.int (M.1 86 ((x2 + x3) - (x2 + x3) / (M.1 80 12) * (M.1 80 12)).toNatClampNeg))]) d_X12_isLower_38 rfl (Nat.le_of_ble_eq_true rfl) rfl rfl ?_
    refine sm_iload (q := 42) d_X12_isLower_40 rfl rfl ?_
    refine sm_iload (q := 44) d_X12_isLower_42 rfl rfl ?_
    refine sm_icmp_eq (q := 47) (t := 60) d_X12_isLower_44 rfl rfl (fun c6 => ?_) (fun c6 => ?_)
    · replace h := sm_it c6 h
      refine sm_iinc (q := 63) (v := (x3 + 1)) (lt := [some (.ref 80), some (.int x1), some (.int x2), some (.int (x3 + 1)), some (.int (M.1 86 ((x1 + x3) - (x1 + x3) / (M.1 80 12) * (M.1 80 12)).toNatClampNeg)), some (.int (M.1 86 ((x2 + x3) - (x2 + x3) / (M.1 80 12) * (M.1 80 12)).toNatClampNeg))]) d_X12_isLower_60 rfl rfl (ii_1 _) (Nat.le_of_ble_eq_true rfl) rfl rfl ?_
      refine sm_goto (t := 2) d_X12_isLower_63 rfl ?_
      refine sm_fg [4, 5] ?_
      exact hkb2 x1 x2 (x3 + 1) M _ h
    · replace h := sm_if c6 h
      refine sm_iload (q := 49) d_X12_isLower_47 rfl rfl ?_
      refine sm_iload (q := 51) d_X12_isLower_49 rfl rfl ?_
      refine sm_icmp_ge (q := 54) (t := 58) d_X12_isLower_51 rfl rfl (fun c7 => ?_) (fun c7 => ?_)
      · replace h := sm_it c7 h
        refine sm_iconst (q := 59) d_X12_isLower_58 rfl ci_0 ?_
        refine sm_fg [0, 1, 2, 3, 4, 5] ?_
        exact j_X12_isLower_59 hx F (0 : Int32) M _ h
      · replace h := sm_if c7 h
        refine sm_iconst (q := 55) d_X12_isLower_54 rfl ci_1 ?_
        refine sm_goto (t := 59) d_X12_isLower_55 rfl ?_
        refine sm_fg [0, 1, 2, 3, 4, 5] ?_
        exact j_X12_isLower_59 hx F (1 : Int32) M _ h
def f_X12_isLower_2 (F : Nat) (n : Nat) : Int32 → Int32 → Int32 → sm_M → Option (Int32) := match n with
 | 0 => fun _ _ _ _ => none
 | n + 1 => f_X12_isLower_2b F (f_X12_isLower_2 F n)
theorem j_X12_isLower_2 {sk : List sm_Sh} (hx : sm_ext skM sk) (F : Nat) : ∀ (n : Nat) (x1 : Int32) (x2 : Int32) (x3 : Int32) (M : sm_M) (r : Int32), f_X12_isLower_2 F n x1 x2 x3 M = some r → sm_J (md_X12_isLower, 0, sk, .inl (some (.int r)), M) 2 [some (.ref 80), some (.int x1), some (.int x2), some (.int x3), none, none] [] M := by
  intro n
  induction n with
  | zero => intro x1 x2 x3  M r h; exact nomatch (show (none : Option (Int32)) = some r from h)
  | succ n ih => exact j_X12_isLower_2b hx F (f_X12_isLower_2 F n) ih
def f_X12_isLower (F : Nat) (x1 : Int32) (x2 : Int32) (M : sm_M) : Option (Int32) := f_X12_isLower_2 F F x1 x2 (0 : Int32) M
set_option maxRecDepth 100000 in
set_option maxHeartbeats 4000000 in
theorem j_X12_isLower {sk : List sm_Sh} (hx : sm_ext skM sk) (F : Nat) : ∀ (x1 : Int32) (x2 : Int32) (M : sm_M) (r : Int32), f_X12_isLower F x1 x2 M = some r → sm_J (md_X12_isLower, 0, sk, .inl (some (.int r)), M) 0 [some (.ref 80), some (.int x1), some (.int x2), none, none, none] [] M := by
  intro x1 x2  M r h
  unfold f_X12_isLower at h
  refine sm_iconst (q := 1) d_X12_isLower_0 rfl ci_0 ?_
  refine sm_istore_n (q := 2) (lt := [some (.ref 80), some (.int x1), some (.int x2), some (.int (0 : Int32)), none, none]) d_X12_isLower_1 rfl (Nat.le_of_ble_eq_true rfl) rfl rfl ?_
  exact j_X12_isLower_2 hx F F x1 x2 (0 : Int32) M _ h
theorem c_X12_isLower {sk : List sm_Sh} (hx : sm_ext skM sk) (F : Nat) (x1 : Int32) (x2 : Int32) (M : sm_M) (r : Int32) (h : f_X12_isLower F x1 x2 M = some r) : sm_Ct yX12_isLower md_X12_isLower 0 sk [.ref 80, .int x1, .int x2] M (.inl (some (.int r))) M := sm_enter 3 pn_X12 rfl (Nat.le_of_ble_eq_true rfl) rfl (j_X12_isLower hx F x1 x2 M r h)
