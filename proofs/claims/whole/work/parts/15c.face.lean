/-! ===== methods, decompiled: 15c.face ===== -/
/-! UniversalCycles.firstInvalid()I -/
theorem d_X11_firstInvalid_0 : decode cX11_firstInvalid 0 = .ok (.aload_n 0, 1) := by decide +kernel
theorem d_X11_firstInvalid_1 : decode cX11_firstInvalid 1 = .ok (.getfield 40, 3) := by decide +kernel
theorem d_X11_firstInvalid_4 : decode cX11_firstInvalid 4 = .ok (.aload_n 0, 1) := by decide +kernel
theorem d_X11_firstInvalid_5 : decode cX11_firstInvalid 5 = .ok (.getfield 10, 3) := by decide +kernel
theorem d_X11_firstInvalid_8 : decode cX11_firstInvalid 8 = .ok (.aload_n 0, 1) := by decide +kernel
theorem d_X11_firstInvalid_9 : decode cX11_firstInvalid 9 = .ok (.getfield 26, 3) := by decide +kernel
theorem d_X11_firstInvalid_12 : decode cX11_firstInvalid 12 = .ok (.invokevirtual 175, 3) := by decide +kernel
theorem d_X11_firstInvalid_15 : decode cX11_firstInvalid 15 = .ok (.aload_n 0, 1) := by decide +kernel
theorem d_X11_firstInvalid_16 : decode cX11_firstInvalid 16 = .ok (.getfield 40, 3) := by decide +kernel
theorem d_X11_firstInvalid_19 : decode cX11_firstInvalid 19 = .ok (.invokevirtual 187, 3) := by decide +kernel
theorem d_X11_firstInvalid_22 : decode cX11_firstInvalid 22 = .ok (.ireturn, 1) := by decide +kernel
def f_X11_firstInvalid (F : Nat) (M : sm_M) : Option (Int32 × sm_M) := (f_X10_lookAt F 24 M).bind fun q1 => (f_X10_invalidPosition F q1).bind fun q2 => some (q2, q1)
set_option maxRecDepth 100000 in
set_option maxHeartbeats 4000000 in
theorem j_X11_firstInvalid {sk : List sm_Sh} (hx : sm_ext skX sk) (F : Nat) : ∀ (M : sm_M) (r : Int32 × sm_M), f_X11_firstInvalid F M = some r → sm_J (md_X11_firstInvalid, 4, sk, .inl (some (.int r.1)), r.2) 0 [some (.ref 0)] [] M := by
  intro   M r h
  unfold f_X11_firstInvalid at h
  refine sm_aload_n (q := 1) d_X11_firstInvalid_0 rfl rfl ?_
  refine sm_getr (q := 4) d_X11_firstInvalid_1 rfl fl_X11_40 (hx sx_0) rfl ?_
  refine sm_aload_n (q := 5) d_X11_firstInvalid_4 rfl rfl ?_
  refine sm_getr (q := 8) d_X11_firstInvalid_5 rfl fl_X11_10 (hx sx_0) rfl ?_
  refine sm_aload_n (q := 9) d_X11_firstInvalid_8 rfl rfl ?_
  refine sm_getr (q := 12) d_X11_firstInvalid_9 rfl fl_X11_26 (hx sx_0) rfl ?_
  obtain ⟨q1, e1, h⟩ := sm_bd h
  refine sm_callV (q := 15) (d' := 3) [] [.ref 1, .ref 24] d_X11_firstInvalid_12 rfl lk_X11_175 (hx sx_52) rfl rfl rfl (Nat.le_of_ble_eq_true rfl) (Nat.le_of_ble_eq_true rfl) (c_X10_lookAt hx F 24 ⟨hx sx_24, hx sx_25⟩ M _ e1) (st9 := []) rfl ?_
  refine sm_aload_n (q := 16) d_X11_firstInvalid_15 rfl rfl ?_
  refine sm_getr (q := 19) d_X11_firstInvalid_16 rfl fl_X11_40 (hx sx_0) rfl ?_
  obtain ⟨q2, e2, h⟩ := sm_bd h
  refine sm_callV (q := 22) (d' := 0) [] [] d_X11_firstInvalid_19 rfl lk_X11_187 (hx sx_52) rfl rfl rfl (Nat.le_of_ble_eq_true rfl) (Nat.le_of_ble_eq_true rfl) (c_X10_invalidPosition hx F q1 _ e2) (st9 := [.int q2]) rfl ?_
  obtain rfl := Option.some.inj h
  exact sm_iret d_X11_firstInvalid_22 rfl rfl rfl rfl
theorem c_X11_firstInvalid {sk : List sm_Sh} (hx : sm_ext skX sk) (F : Nat) (M : sm_M) (r : Int32 × sm_M) (h : f_X11_firstInvalid F M = some r) : sm_Ct yX11_firstInvalid md_X11_firstInvalid 4 sk [.ref 0] M (.inl (some (.int r.1))) r.2 := sm_enter 0 pn_X11 rfl (Nat.le_of_ble_eq_true rfl) rfl (j_X11_firstInvalid hx F M r h)
/-! UniversalCycles.firstRepeat()I -/
theorem d_X11_firstRepeat_0 : decode cX11_firstRepeat 0 = .ok (.aload_n 0, 1) := by decide +kernel
theorem d_X11_firstRepeat_1 : decode cX11_firstRepeat 1 = .ok (.getfield 40, 3) := by decide +kernel
theorem d_X11_firstRepeat_4 : decode cX11_firstRepeat 4 = .ok (.aload_n 0, 1) := by decide +kernel
theorem d_X11_firstRepeat_5 : decode cX11_firstRepeat 5 = .ok (.getfield 10, 3) := by decide +kernel
theorem d_X11_firstRepeat_8 : decode cX11_firstRepeat 8 = .ok (.aload_n 0, 1) := by decide +kernel
theorem d_X11_firstRepeat_9 : decode cX11_firstRepeat 9 = .ok (.getfield 26, 3) := by decide +kernel
theorem d_X11_firstRepeat_12 : decode cX11_firstRepeat 12 = .ok (.invokevirtual 175, 3) := by decide +kernel
theorem d_X11_firstRepeat_15 : decode cX11_firstRepeat 15 = .ok (.aload_n 0, 1) := by decide +kernel
theorem d_X11_firstRepeat_16 : decode cX11_firstRepeat 16 = .ok (.getfield 40, 3) := by decide +kernel
theorem d_X11_firstRepeat_19 : decode cX11_firstRepeat 19 = .ok (.invokevirtual 191, 3) := by decide +kernel
theorem d_X11_firstRepeat_22 : decode cX11_firstRepeat 22 = .ok (.ireturn, 1) := by decide +kernel
def f_X11_firstRepeat (F : Nat) (M : sm_M) : Option (Int32 × sm_M) := (f_X10_lookAt F 24 M).bind fun q1 => (f_X10_repeatPosition F q1).bind fun q2 => some (q2, q1)
set_option maxRecDepth 100000 in
set_option maxHeartbeats 4000000 in
theorem j_X11_firstRepeat {sk : List sm_Sh} (hx : sm_ext skX sk) (F : Nat) : ∀ (M : sm_M) (r : Int32 × sm_M), f_X11_firstRepeat F M = some r → sm_J (md_X11_firstRepeat, 4, sk, .inl (some (.int r.1)), r.2) 0 [some (.ref 0)] [] M := by
  intro   M r h
  unfold f_X11_firstRepeat at h
  refine sm_aload_n (q := 1) d_X11_firstRepeat_0 rfl rfl ?_
  refine sm_getr (q := 4) d_X11_firstRepeat_1 rfl fl_X11_40 (hx sx_0) rfl ?_
  refine sm_aload_n (q := 5) d_X11_firstRepeat_4 rfl rfl ?_
  refine sm_getr (q := 8) d_X11_firstRepeat_5 rfl fl_X11_10 (hx sx_0) rfl ?_
  refine sm_aload_n (q := 9) d_X11_firstRepeat_8 rfl rfl ?_
  refine sm_getr (q := 12) d_X11_firstRepeat_9 rfl fl_X11_26 (hx sx_0) rfl ?_
  obtain ⟨q1, e1, h⟩ := sm_bd h
  refine sm_callV (q := 15) (d' := 3) [] [.ref 1, .ref 24] d_X11_firstRepeat_12 rfl lk_X11_175 (hx sx_52) rfl rfl rfl (Nat.le_of_ble_eq_true rfl) (Nat.le_of_ble_eq_true rfl) (c_X10_lookAt hx F 24 ⟨hx sx_24, hx sx_25⟩ M _ e1) (st9 := []) rfl ?_
  refine sm_aload_n (q := 16) d_X11_firstRepeat_15 rfl rfl ?_
  refine sm_getr (q := 19) d_X11_firstRepeat_16 rfl fl_X11_40 (hx sx_0) rfl ?_
  obtain ⟨q2, e2, h⟩ := sm_bd h
  refine sm_callV (q := 22) (d' := 0) [] [] d_X11_firstRepeat_19 rfl lk_X11_191 (hx sx_52) rfl rfl rfl (Nat.le_of_ble_eq_true rfl) (Nat.le_of_ble_eq_true rfl) (c_X10_repeatPosition hx F q1 _ e2) (st9 := [.int q2]) rfl ?_
  obtain rfl := Option.some.inj h
  exact sm_iret d_X11_firstRepeat_22 rfl rfl rfl rfl
theorem c_X11_firstRepeat {sk : List sm_Sh} (hx : sm_ext skX sk) (F : Nat) (M : sm_M) (r : Int32 × sm_M) (h : f_X11_firstRepeat F M = some r) : sm_Ct yX11_firstRepeat md_X11_firstRepeat 4 sk [.ref 0] M (.inl (some (.int r.1))) r.2 := sm_enter 0 pn_X11 rfl (Nat.le_of_ble_eq_true rfl) rfl (j_X11_firstRepeat hx F M r h)
/-! UniversalCycles.firstMissing()I -/
theorem d_X11_firstMissing_0 : decode cX11_firstMissing 0 = .ok (.aload_n 0, 1) := by decide +kernel
theorem d_X11_firstMissing_1 : decode cX11_firstMissing 1 = .ok (.getfield 40, 3) := by decide +kernel
theorem d_X11_firstMissing_4 : decode cX11_firstMissing 4 = .ok (.aload_n 0, 1) := by decide +kernel
theorem d_X11_firstMissing_5 : decode cX11_firstMissing 5 = .ok (.getfield 10, 3) := by decide +kernel
theorem d_X11_firstMissing_8 : decode cX11_firstMissing 8 = .ok (.aload_n 0, 1) := by decide +kernel
theorem d_X11_firstMissing_9 : decode cX11_firstMissing 9 = .ok (.getfield 26, 3) := by decide +kernel
theorem d_X11_firstMissing_12 : decode cX11_firstMissing 12 = .ok (.invokevirtual 175, 3) := by decide +kernel
theorem d_X11_firstMissing_15 : decode cX11_firstMissing 15 = .ok (.aload_n 0, 1) := by decide +kernel
theorem d_X11_firstMissing_16 : decode cX11_firstMissing 16 = .ok (.getfield 40, 3) := by decide +kernel
theorem d_X11_firstMissing_19 : decode cX11_firstMissing 19 = .ok (.invokevirtual 194, 3) := by decide +kernel
theorem d_X11_firstMissing_22 : decode cX11_firstMissing 22 = .ok (.ireturn, 1) := by decide +kernel
def f_X11_firstMissing (F : Nat) (M : sm_M) : Option (Int32 × sm_M) := (f_X10_lookAt F 24 M).bind fun q1 => (f_X10_missingElement F q1).bind fun q2 => some (q2, q1)
set_option maxRecDepth 100000 in
set_option maxHeartbeats 4000000 in
theorem j_X11_firstMissing {sk : List sm_Sh} (hx : sm_ext skX sk) (F : Nat) : ∀ (M : sm_M) (r : Int32 × sm_M), f_X11_firstMissing F M = some r → sm_J (md_X11_firstMissing, 4, sk, .inl (some (.int r.1)), r.2) 0 [some (.ref 0)] [] M := by
  intro   M r h
  unfold f_X11_firstMissing at h
  refine sm_aload_n (q := 1) d_X11_firstMissing_0 rfl rfl ?_
  refine sm_getr (q := 4) d_X11_firstMissing_1 rfl fl_X11_40 (hx sx_0) rfl ?_
  refine sm_aload_n (q := 5) d_X11_firstMissing_4 rfl rfl ?_
  refine sm_getr (q := 8) d_X11_firstMissing_5 rfl fl_X11_10 (hx sx_0) rfl ?_
  refine sm_aload_n (q := 9) d_X11_firstMissing_8 rfl rfl ?_
  refine sm_getr (q := 12) d_X11_firstMissing_9 rfl fl_X11_26 (hx sx_0) rfl ?_
  obtain ⟨q1, e1, h⟩ := sm_bd h
  refine sm_callV (q := 15) (d' := 3) [] [.ref 1, .ref 24] d_X11_firstMissing_12 rfl lk_X11_175 (hx sx_52) rfl rfl rfl (Nat.le_of_ble_eq_true rfl) (Nat.le_of_ble_eq_true rfl) (c_X10_lookAt hx F 24 ⟨hx sx_24, hx sx_25⟩ M _ e1) (st9 := []) rfl ?_
  refine sm_aload_n (q := 16) d_X11_firstMissing_15 rfl rfl ?_
  refine sm_getr (q := 19) d_X11_firstMissing_16 rfl fl_X11_40 (hx sx_0) rfl ?_
  obtain ⟨q2, e2, h⟩ := sm_bd h
  refine sm_callV (q := 22) (d' := 0) [] [] d_X11_firstMissing_19 rfl lk_X11_194 (hx sx_52) rfl rfl rfl (Nat.le_of_ble_eq_true rfl) (Nat.le_of_ble_eq_true rfl) (c_X10_missingElement hx F q1 _ e2) (st9 := [.int q2]) rfl ?_
  obtain rfl := Option.some.inj h
  exact sm_iret d_X11_firstMissing_22 rfl rfl rfl rfl
theorem c_X11_firstMissing {sk : List sm_Sh} (hx : sm_ext skX sk) (F : Nat) (M : sm_M) (r : Int32 × sm_M) (h : f_X11_firstMissing F M = some r) : sm_Ct yX11_firstMissing md_X11_firstMissing 4 sk [.ref 0] M (.inl (some (.int r.1))) r.2 := sm_enter 0 pn_X11 rfl (Nat.le_of_ble_eq_true rfl) rfl (j_X11_firstMissing hx F M r h)
/-! UniversalCycles.isUniversal()Z -/
theorem d_X11_isUniversal_0 : decode cX11_isUniversal 0 = .ok (.aload_n 0, 1) := by decide +kernel
theorem d_X11_isUniversal_1 : decode cX11_isUniversal 1 = .ok (.getfield 40, 3) := by decide +kernel
theorem d_X11_isUniversal_4 : decode cX11_isUniversal 4 = .ok (.aload_n 0, 1) := by decide +kernel
theorem d_X11_isUniversal_5 : decode cX11_isUniversal 5 = .ok (.getfield 10, 3) := by decide +kernel
theorem d_X11_isUniversal_8 : decode cX11_isUniversal 8 = .ok (.aload_n 0, 1) := by decide +kernel
theorem d_X11_isUniversal_9 : decode cX11_isUniversal 9 = .ok (.getfield 26, 3) := by decide +kernel
theorem d_X11_isUniversal_12 : decode cX11_isUniversal 12 = .ok (.invokevirtual 175, 3) := by decide +kernel
theorem d_X11_isUniversal_15 : decode cX11_isUniversal 15 = .ok (.aload_n 0, 1) := by decide +kernel
theorem d_X11_isUniversal_16 : decode cX11_isUniversal 16 = .ok (.getfield 40, 3) := by decide +kernel
theorem d_X11_isUniversal_19 : decode cX11_isUniversal 19 = .ok (.invokevirtual 187, 3) := by decide +kernel
theorem d_X11_isUniversal_22 : decode cX11_isUniversal 22 = .ok (.iconst (-1), 1) := by decide +kernel
theorem d_X11_isUniversal_23 : decode cX11_isUniversal 23 = .ok (.if_icmp .ne 29, 3) := by decide +kernel
theorem d_X11_isUniversal_26 : decode cX11_isUniversal 26 = .ok (.aload_n 0, 1) := by decide +kernel
theorem d_X11_isUniversal_27 : decode cX11_isUniversal 27 = .ok (.getfield 40, 3) := by decide +kernel
theorem d_X11_isUniversal_30 : decode cX11_isUniversal 30 = .ok (.invokevirtual 191, 3) := by decide +kernel
theorem d_X11_isUniversal_33 : decode cX11_isUniversal 33 = .ok (.iconst (-1), 1) := by decide +kernel
theorem d_X11_isUniversal_34 : decode cX11_isUniversal 34 = .ok (.if_icmp .ne 18, 3) := by decide +kernel
theorem d_X11_isUniversal_37 : decode cX11_isUniversal 37 = .ok (.aload_n 0, 1) := by decide +kernel
theorem d_X11_isUniversal_38 : decode cX11_isUniversal 38 = .ok (.getfield 40, 3) := by decide +kernel
theorem d_X11_isUniversal_41 : decode cX11_isUniversal 41 = .ok (.invokevirtual 194, 3) := by decide +kernel
theorem d_X11_isUniversal_44 : decode cX11_isUniversal 44 = .ok (.iconst (-1), 1) := by decide +kernel
theorem d_X11_isUniversal_45 : decode cX11_isUniversal 45 = .ok (.if_icmp .ne 7, 3) := by decide +kernel
theorem d_X11_isUniversal_48 : decode cX11_isUniversal 48 = .ok (.iconst 1, 1) := by decide +kernel
theorem d_X11_isUniversal_49 : decode cX11_isUniversal 49 = .ok (.goto 4, 3) := by decide +kernel
theorem d_X11_isUniversal_52 : decode cX11_isUniversal 52 = .ok (.iconst 0, 1) := by decide +kernel
theorem d_X11_isUniversal_53 : decode cX11_isUniversal 53 = .ok (.ireturn, 1) := by decide +kernel
def f_X11_isUniversal_53 (F : Nat) (y0 : Int32) (M : sm_M) : Option (Int32 × sm_M) := sm_g (sm_nar .boolean y0) (some (y0, M))
set_option maxRecDepth 100000 in
set_option maxHeartbeats 4000000 in
theorem j_X11_isUniversal_53 {sk : List sm_Sh} (hx : sm_ext skX sk) (F : Nat) : ∀ (y0 : Int32) (M : sm_M) (r : Int32 × sm_M), f_X11_isUniversal_53 F y0 M = some r → sm_J (md_X11_isUniversal, 4, sk, .inl (some (.int r.1)), r.2) 53 [none] [.int y0] M := by
  intro y0  M r h
  unfold f_X11_isUniversal_53 at h
  obtain ⟨g1, h⟩ := sm_gt h
  obtain rfl := Option.some.inj h
  exact sm_iret d_X11_isUniversal_53 rfl (sm_nar_of g1).1 rfl rfl
def f_X11_isUniversal_52 (F : Nat) (M : sm_M) : Option (Int32 × sm_M) := f_X11_isUniversal_53 F (0 : Int32) M
set_option maxRecDepth 100000 in
set_option maxHeartbeats 4000000 in
theorem j_X11_isUniversal_52 {sk : List sm_Sh} (hx : sm_ext skX sk) (F : Nat) : ∀ (M : sm_M) (r : Int32 × sm_M), f_X11_isUniversal_52 F M = some r → sm_J (md_X11_isUniversal, 4, sk, .inl (some (.int r.1)), r.2) 52 [none] [] M := by
  intro   M r h
  unfold f_X11_isUniversal_52 at h
  refine sm_iconst (q := 53) d_X11_isUniversal_52 rfl ci_0 ?_
  exact j_X11_isUniversal_53 hx F (0 : Int32) M _ h
def f_X11_isUniversal (F : Nat) (M : sm_M) : Option (Int32 × sm_M) := (f_X10_lookAt F 24 M).bind fun q1 => (f_X10_invalidPosition F q1).bind fun q2 => if q2 = (-1 : Int32) then ((f_X10_repeatPosition F q1).bind fun q4 => if q4 = (-1 : Int32) then ((f_X10_missingElement F q1).bind fun q6 => if q6 = (-1 : Int32) then (f_X11_isUniversal_53 F (1 : Int32) q1) else (f_X11_isUniversal_52 F q1)) else (f_X11_isUniversal_52 F q1)) else (f_X11_isUniversal_52 F q1)
set_option maxRecDepth 100000 in
set_option maxHeartbeats 4000000 in
theorem j_X11_isUniversal {sk : List sm_Sh} (hx : sm_ext skX sk) (F : Nat) : ∀ (M : sm_M) (r : Int32 × sm_M), f_X11_isUniversal F M = some r → sm_J (md_X11_isUniversal, 4, sk, .inl (some (.int r.1)), r.2) 0 [some (.ref 0)] [] M := by
  intro   M r h
  unfold f_X11_isUniversal at h
  refine sm_aload_n (q := 1) d_X11_isUniversal_0 rfl rfl ?_
  refine sm_getr (q := 4) d_X11_isUniversal_1 rfl fl_X11_40 (hx sx_0) rfl ?_
  refine sm_aload_n (q := 5) d_X11_isUniversal_4 rfl rfl ?_
  refine sm_getr (q := 8) d_X11_isUniversal_5 rfl fl_X11_10 (hx sx_0) rfl ?_
  refine sm_aload_n (q := 9) d_X11_isUniversal_8 rfl rfl ?_
  refine sm_getr (q := 12) d_X11_isUniversal_9 rfl fl_X11_26 (hx sx_0) rfl ?_
  obtain ⟨q1, e1, h⟩ := sm_bd h
  refine sm_callV (q := 15) (d' := 3) [] [.ref 1, .ref 24] d_X11_isUniversal_12 rfl lk_X11_175 (hx sx_52) rfl rfl rfl (Nat.le_of_ble_eq_true rfl) (Nat.le_of_ble_eq_true rfl) (c_X10_lookAt hx F 24 ⟨hx sx_24, hx sx_25⟩ M _ e1) (st9 := []) rfl ?_
  refine sm_aload_n (q := 16) d_X11_isUniversal_15 rfl rfl ?_
  refine sm_getr (q := 19) d_X11_isUniversal_16 rfl fl_X11_40 (hx sx_0) rfl ?_
  obtain ⟨q2, e2, h⟩ := sm_bd h
  refine sm_callV (q := 22) (d' := 0) [] [] d_X11_isUniversal_19 rfl lk_X11_187 (hx sx_52) rfl rfl rfl (Nat.le_of_ble_eq_true rfl) (Nat.le_of_ble_eq_true rfl) (c_X10_invalidPosition hx F q1 _ e2) (st9 := [.int q2]) rfl ?_
  refine sm_iconst (q := 23) d_X11_isUniversal_22 rfl ci_m1 ?_
  refine sm_icmp_ne (q := 26) (t := 52) d_X11_isUniversal_23 rfl rfl (fun c3 => ?_) (fun c3 => ?_)
  · replace h := sm_if c3 h
    refine sm_fg [0] ?_
    exact j_X11_isUniversal_52 hx F q1 _ h
  · replace h := sm_it c3 h
    refine sm_aload_n (q := 27) d_X11_isUniversal_26 rfl rfl ?_
    refine sm_getr (q := 30) d_X11_isUniversal_27 rfl fl_X11_40 (hx sx_0) rfl ?_
    obtain ⟨q4, e4, h⟩ := sm_bd h
    refine sm_callV (q := 33) (d' := 0) [] [] d_X11_isUniversal_30 rfl lk_X11_191 (hx sx_52) rfl rfl rfl (Nat.le_of_ble_eq_true rfl) (Nat.le_of_ble_eq_true rfl) (c_X10_repeatPosition hx F q1 _ e4) (st9 := [.int q4]) rfl ?_
    refine sm_iconst (q := 34) d_X11_isUniversal_33 rfl ci_m1 ?_
    refine sm_icmp_ne (q := 37) (t := 52) d_X11_isUniversal_34 rfl rfl (fun c5 => ?_) (fun c5 => ?_)
    · replace h := sm_if c5 h
      refine sm_fg [0] ?_
      exact j_X11_isUniversal_52 hx F q1 _ h
    · replace h := sm_it c5 h
      refine sm_aload_n (q := 38) d_X11_isUniversal_37 rfl rfl ?_
      refine sm_getr (q := 41) d_X11_isUniversal_38 rfl fl_X11_40 (hx sx_0) rfl ?_
      obtain ⟨q6, e6, h⟩ := sm_bd h
      refine sm_callV (q := 44) (d' := 0) [] [] d_X11_isUniversal_41 rfl lk_X11_194 (hx sx_52) rfl rfl rfl (Nat.le_of_ble_eq_true rfl) (Nat.le_of_ble_eq_true rfl) (c_X10_missingElement hx F q1 _ e6) (st9 := [.int q6]) rfl ?_
      refine sm_iconst (q := 45) d_X11_isUniversal_44 rfl ci_m1 ?_
      refine sm_icmp_ne (q := 48) (t := 52) d_X11_isUniversal_45 rfl rfl (fun c7 => ?_) (fun c7 => ?_)
      · replace h := sm_if c7 h
        refine sm_fg [0] ?_
        exact j_X11_isUniversal_52 hx F q1 _ h
      · replace h := sm_it c7 h
        refine sm_iconst (q := 49) d_X11_isUniversal_48 rfl ci_1 ?_
        refine sm_goto (t := 53) d_X11_isUniversal_49 rfl ?_
        refine sm_fg [0] ?_
        exact j_X11_isUniversal_53 hx F (1 : Int32) q1 _ h
theorem c_X11_isUniversal {sk : List sm_Sh} (hx : sm_ext skX sk) (F : Nat) (M : sm_M) (r : Int32 × sm_M) (h : f_X11_isUniversal F M = some r) : sm_Ct yX11_isUniversal md_X11_isUniversal 4 sk [.ref 0] M (.inl (some (.int r.1))) r.2 := sm_enter 0 pn_X11 rfl (Nat.le_of_ble_eq_true rfl) rfl (j_X11_isUniversal hx F M r h)
/-! UniversalCycles.shownBits(I)J -/
theorem d_X11_shownBits_0 : decode cX11_shownBits 0 = .ok (.iload_n 1, 1) := by decide +kernel
theorem d_X11_shownBits_1 : decode cX11_shownBits 1 = .ok (.ifCond .lt 8, 3) := by decide +kernel
theorem d_X11_shownBits_4 : decode cX11_shownBits 4 = .ok (.iload_n 1, 1) := by decide +kernel
theorem d_X11_shownBits_5 : decode cX11_shownBits 5 = .ok (.iconst 4, 1) := by decide +kernel
theorem d_X11_shownBits_6 : decode cX11_shownBits 6 = .ok (.if_icmp .lt 13, 3) := by decide +kernel
theorem d_X11_shownBits_9 : decode cX11_shownBits 9 = .ok (.new 90, 3) := by decide +kernel
theorem d_X11_shownBits_12 : decode cX11_shownBits 12 = .ok (.dup, 1) := by decide +kernel
theorem d_X11_shownBits_13 : decode cX11_shownBits 13 = .ok (.ldc 197, 2) := by decide +kernel
theorem d_X11_shownBits_15 : decode cX11_shownBits 15 = .ok (.invokespecial 94, 3) := by decide +kernel
theorem d_X11_shownBits_18 : decode cX11_shownBits 18 = .ok (.athrow, 1) := by decide +kernel
theorem d_X11_shownBits_19 : decode cX11_shownBits 19 = .ok (.aload_n 0, 1) := by decide +kernel
theorem d_X11_shownBits_20 : decode cX11_shownBits 20 = .ok (.getfield 40, 3) := by decide +kernel
theorem d_X11_shownBits_23 : decode cX11_shownBits 23 = .ok (.aload_n 0, 1) := by decide +kernel
theorem d_X11_shownBits_24 : decode cX11_shownBits 24 = .ok (.getfield 10, 3) := by decide +kernel
theorem d_X11_shownBits_27 : decode cX11_shownBits 27 = .ok (.aload_n 0, 1) := by decide +kernel
theorem d_X11_shownBits_28 : decode cX11_shownBits 28 = .ok (.getfield 26, 3) := by decide +kernel
theorem d_X11_shownBits_31 : decode cX11_shownBits 31 = .ok (.invokevirtual 175, 3) := by decide +kernel
theorem d_X11_shownBits_34 : decode cX11_shownBits 34 = .ok (.aload_n 0, 1) := by decide +kernel
theorem d_X11_shownBits_35 : decode cX11_shownBits 35 = .ok (.getfield 40, 3) := by decide +kernel
theorem d_X11_shownBits_38 : decode cX11_shownBits 38 = .ok (.bipush 50, 2) := by decide +kernel
theorem d_X11_shownBits_40 : decode cX11_shownBits 40 = .ok (.iload_n 1, 1) := by decide +kernel
theorem d_X11_shownBits_41 : decode cX11_shownBits 41 = .ok (.imul, 1) := by decide +kernel
theorem d_X11_shownBits_42 : decode cX11_shownBits 42 = .ok (.invokevirtual 199, 3) := by decide +kernel
theorem d_X11_shownBits_45 : decode cX11_shownBits 45 = .ok (.lreturn, 1) := by decide +kernel
def f_X11_shownBits_9 (F : Nat) (M : sm_M) : Option (sm_O × sm_M) := some (.inr "java/lang/IllegalArgumentException", M)
set_option maxRecDepth 100000 in
set_option maxHeartbeats 4000000 in
theorem j_X11_shownBits_9 {sk : List sm_Sh} (hx : sm_ext skX sk) (F : Nat) : ∀ (M : sm_M) (r : sm_O × sm_M), f_X11_shownBits_9 F M = some r → sm_J (md_X11_shownBits, 6, sk, r.1, r.2) 9 [none, none] [] M := by
  intro   M r h
  unfold f_X11_shownBits_9 at h
  obtain rfl := Option.some.inj h
  exact sm_throw lt_X11_90_197_94 d_X11_shownBits_9 d_X11_shownBits_12 d_X11_shownBits_13 d_X11_shownBits_15 d_X11_shownBits_18 (Nat.le_of_ble_eq_true rfl) (Nat.le_of_ble_eq_true rfl) rfl rfl
def f_X11_shownBits (F : Nat) (x1 : Int32) (M : sm_M) : Option (sm_O × sm_M) := if x1 < 0 then (f_X11_shownBits_9 F M) else (if x1 < (4 : Int32) then ((f_X10_lookAt F 24 M).bind fun q3 => (f_X10_bitsFrom F ((50 : Int32) * x1) q3).bind fun q4 => some (.inl (some (.long q4)), q3)) else (f_X11_shownBits_9 F M))
set_option maxRecDepth 100000 in
set_option maxHeartbeats 4000000 in
theorem j_X11_shownBits {sk : List sm_Sh} (hx : sm_ext skX sk) (F : Nat) : ∀ (x1 : Int32) (M : sm_M) (r : sm_O × sm_M), f_X11_shownBits F x1 M = some r → sm_J (md_X11_shownBits, 6, sk, r.1, r.2) 0 [some (.ref 0), some (.int x1)] [] M := by
  intro x1  M r h
  unfold f_X11_shownBits at h
  refine sm_iload_n (q := 1) d_X11_shownBits_0 rfl rfl ?_
  refine sm_if_lt (q := 4) (t := 9) d_X11_shownBits_1 rfl rfl (fun c1 => ?_) (fun c1 => ?_)
  · replace h := sm_it c1 h
    refine sm_fg [0, 1] ?_
    exact j_X11_shownBits_9 hx F M _ h
  · replace h := sm_if c1 h
    refine sm_iload_n (q := 5) d_X11_shownBits_4 rfl rfl ?_
    refine sm_iconst (q := 6) d_X11_shownBits_5 rfl ci_4 ?_
    refine sm_icmp_lt (q := 9) (t := 19) d_X11_shownBits_6 rfl rfl (fun c2 => ?_) (fun c2 => ?_)
    · replace h := sm_it c2 h
      refine sm_aload_n (q := 20) d_X11_shownBits_19 rfl rfl ?_
      refine sm_getr (q := 23) d_X11_shownBits_20 rfl fl_X11_40 (hx sx_0) rfl ?_
      refine sm_aload_n (q := 24) d_X11_shownBits_23 rfl rfl ?_
      refine sm_getr (q := 27) d_X11_shownBits_24 rfl fl_X11_10 (hx sx_0) rfl ?_
      refine sm_aload_n (q := 28) d_X11_shownBits_27 rfl rfl ?_
      refine sm_getr (q := 31) d_X11_shownBits_28 rfl fl_X11_26 (hx sx_0) rfl ?_
      obtain ⟨q3, e3, h⟩ := sm_bd h
      refine sm_callV (q := 34) (d' := 3) [] [.ref 1, .ref 24] d_X11_shownBits_31 rfl lk_X11_175 (hx sx_52) rfl rfl rfl (Nat.le_of_ble_eq_true rfl) (Nat.le_of_ble_eq_true rfl) (c_X10_lookAt hx F 24 ⟨hx sx_24, hx sx_25⟩ M _ e3) (st9 := []) rfl ?_
      refine sm_aload_n (q := 35) d_X11_shownBits_34 rfl rfl ?_
      refine sm_getr (q := 38) d_X11_shownBits_35 rfl fl_X11_40 (hx sx_0) rfl ?_
      refine sm_bipush (q := 40) d_X11_shownBits_38 rfl cb_50 ?_
      refine sm_iload_n (q := 41) d_X11_shownBits_40 rfl rfl ?_
      refine sm_imul (q := 42) d_X11_shownBits_41 rfl ?_
      obtain ⟨q4, e4, h⟩ := sm_bd h
      refine sm_callV (q := 45) (d' := 0) [] [.int ((50 : Int32) * x1)] d_X11_shownBits_42 rfl lk_X11_199 (hx sx_52) rfl rfl rfl (Nat.le_of_ble_eq_true rfl) (Nat.le_of_ble_eq_true rfl) (c_X10_bitsFrom hx F ((50 : Int32) * x1) q3 _ e4) (st9 := [.long q4]) rfl ?_
      obtain rfl := Option.some.inj h
      exact sm_lret d_X11_shownBits_45 rfl rfl rfl
    · replace h := sm_if c2 h
      refine sm_fg [0, 1] ?_
      exact j_X11_shownBits_9 hx F M _ h
theorem c_X11_shownBits {sk : List sm_Sh} (hx : sm_ext skX sk) (F : Nat) (x1 : Int32) (M : sm_M) (r : sm_O × sm_M) (h : f_X11_shownBits F x1 M = some r) : sm_Ct yX11_shownBits md_X11_shownBits 6 sk [.ref 0, .int x1] M (r.1) r.2 := sm_enter 0 pn_X11 rfl (Nat.le_of_ble_eq_true rfl) rfl (j_X11_shownBits hx F x1 M r h)
/-! UniversalCycles.longestRun()I -/
theorem d_X11_longestRun_0 : decode cX11_longestRun 0 = .ok (.aload_n 0, 1) := by decide +kernel
theorem d_X11_longestRun_1 : decode cX11_longestRun 1 = .ok (.getfield 40, 3) := by decide +kernel
theorem d_X11_longestRun_4 : decode cX11_longestRun 4 = .ok (.aload_n 0, 1) := by decide +kernel
theorem d_X11_longestRun_5 : decode cX11_longestRun 5 = .ok (.getfield 10, 3) := by decide +kernel
theorem d_X11_longestRun_8 : decode cX11_longestRun 8 = .ok (.aload_n 0, 1) := by decide +kernel
theorem d_X11_longestRun_9 : decode cX11_longestRun 9 = .ok (.getfield 26, 3) := by decide +kernel
theorem d_X11_longestRun_12 : decode cX11_longestRun 12 = .ok (.invokevirtual 175, 3) := by decide +kernel
theorem d_X11_longestRun_15 : decode cX11_longestRun 15 = .ok (.aload_n 0, 1) := by decide +kernel
theorem d_X11_longestRun_16 : decode cX11_longestRun 16 = .ok (.getfield 40, 3) := by decide +kernel
theorem d_X11_longestRun_19 : decode cX11_longestRun 19 = .ok (.invokevirtual 203, 3) := by decide +kernel
theorem d_X11_longestRun_22 : decode cX11_longestRun 22 = .ok (.aload_n 0, 1) := by decide +kernel
theorem d_X11_longestRun_23 : decode cX11_longestRun 23 = .ok (.getfield 40, 3) := by decide +kernel
theorem d_X11_longestRun_26 : decode cX11_longestRun 26 = .ok (.getfield 206, 3) := by decide +kernel
theorem d_X11_longestRun_29 : decode cX11_longestRun 29 = .ok (.ireturn, 1) := by decide +kernel
def f_X11_longestRun (F : Nat) (M : sm_M) : Option (Int32 × sm_M) := (f_X10_lookAt F 24 M).bind fun q1 => (f_X10_findRun F q1).bind fun q2 => some ((q2.1 52 6), q2)
set_option maxRecDepth 100000 in
set_option maxHeartbeats 4000000 in
theorem j_X11_longestRun {sk : List sm_Sh} (hx : sm_ext skX sk) (F : Nat) : ∀ (M : sm_M) (r : Int32 × sm_M), f_X11_longestRun F M = some r → sm_J (md_X11_longestRun, 4, sk, .inl (some (.int r.1)), r.2) 0 [some (.ref 0)] [] M := by
  intro   M r h
  unfold f_X11_longestRun at h
  refine sm_aload_n (q := 1) d_X11_longestRun_0 rfl rfl ?_
  refine sm_getr (q := 4) d_X11_longestRun_1 rfl fl_X11_40 (hx sx_0) rfl ?_
  refine sm_aload_n (q := 5) d_X11_longestRun_4 rfl rfl ?_
  refine sm_getr (q := 8) d_X11_longestRun_5 rfl fl_X11_10 (hx sx_0) rfl ?_
  refine sm_aload_n (q := 9) d_X11_longestRun_8 rfl rfl ?_
  refine sm_getr (q := 12) d_X11_longestRun_9 rfl fl_X11_26 (hx sx_0) rfl ?_
  obtain ⟨q1, e1, h⟩ := sm_bd h
  refine sm_callV (q := 15) (d' := 3) [] [.ref 1, .ref 24] d_X11_longestRun_12 rfl lk_X11_175 (hx sx_52) rfl rfl rfl (Nat.le_of_ble_eq_true rfl) (Nat.le_of_ble_eq_true rfl) (c_X10_lookAt hx F 24 ⟨hx sx_24, hx sx_25⟩ M _ e1) (st9 := []) rfl ?_
  refine sm_aload_n (q := 16) d_X11_longestRun_15 rfl rfl ?_
  refine sm_getr (q := 19) d_X11_longestRun_16 rfl fl_X11_40 (hx sx_0) rfl ?_
  obtain ⟨q2, e2, h⟩ := sm_bd h
  refine sm_callV (q := 22) (d' := 1) [] [] d_X11_longestRun_19 rfl lk_X11_203 (hx sx_52) rfl rfl rfl (Nat.le_of_ble_eq_true rfl) (Nat.le_of_ble_eq_true rfl) (c_X10_findRun hx F q1 _ e2) (st9 := []) rfl ?_
  refine sm_aload_n (q := 23) d_X11_longestRun_22 rfl rfl ?_
  refine sm_getr (q := 26) d_X11_longestRun_23 rfl fl_X11_40 (hx sx_0) rfl ?_
  refine sm_geti (q := 29) d_X11_longestRun_26 rfl fl_X11_206 (hx sx_52) rfl ?_
  obtain rfl := Option.some.inj h
  exact sm_iret d_X11_longestRun_29 rfl rfl rfl rfl
theorem c_X11_longestRun {sk : List sm_Sh} (hx : sm_ext skX sk) (F : Nat) (M : sm_M) (r : Int32 × sm_M) (h : f_X11_longestRun F M = some r) : sm_Ct yX11_longestRun md_X11_longestRun 4 sk [.ref 0] M (.inl (some (.int r.1))) r.2 := sm_enter 0 pn_X11 rfl (Nat.le_of_ble_eq_true rfl) rfl (j_X11_longestRun hx F M r h)
/-! UniversalCycles.needSequence()V -/
theorem d_X11_needSequence_0 : decode cX11_needSequence 0 = .ok (.aload_n 0, 1) := by decide +kernel
theorem d_X11_needSequence_1 : decode cX11_needSequence 1 = .ok (.getfield 26, 3) := by decide +kernel
theorem d_X11_needSequence_4 : decode cX11_needSequence 4 = .ok (.getfield 130, 3) := by decide +kernel
theorem d_X11_needSequence_7 : decode cX11_needSequence 7 = .ok (.ifCond .ne 14, 3) := by decide +kernel
theorem d_X11_needSequence_10 : decode cX11_needSequence 10 = .ok (.new 131, 3) := by decide +kernel
theorem d_X11_needSequence_13 : decode cX11_needSequence 13 = .ok (.dup, 1) := by decide +kernel
theorem d_X11_needSequence_14 : decode cX11_needSequence 14 = .ok (.ldc_w 352, 3) := by decide +kernel
theorem d_X11_needSequence_17 : decode cX11_needSequence 17 = .ok (.invokespecial 135, 3) := by decide +kernel
theorem d_X11_needSequence_20 : decode cX11_needSequence 20 = .ok (.athrow, 1) := by decide +kernel
theorem d_X11_needSequence_21 : decode cX11_needSequence 21 = .ok (.return_, 1) := by decide +kernel
def f_X11_needSequence (F : Nat) (M : sm_M) : Option (sm_O × sm_M) := if (M.1 24 1) = 0 then (some (.inr "java/lang/IllegalStateException", M)) else (some (.inl none, M))
set_option maxRecDepth 100000 in
set_option maxHeartbeats 4000000 in
theorem j_X11_needSequence {sk : List sm_Sh} (hx : sm_ext skX sk) (F : Nat) : ∀ (M : sm_M) (r : sm_O × sm_M), f_X11_needSequence F M = some r → sm_J (md_X11_needSequence, 6, sk, r.1, r.2) 0 [some (.ref 0)] [] M := by
  intro   M r h
  unfold f_X11_needSequence at h
  refine sm_aload_n (q := 1) d_X11_needSequence_0 rfl rfl ?_
  refine sm_getr (q := 4) d_X11_needSequence_1 rfl fl_X11_26 (hx sx_0) rfl ?_
  refine sm_geti (q := 7) d_X11_needSequence_4 rfl fl_X11_130 (hx sx_24) rfl ?_
  refine sm_if_ne (q := 10) (t := 21) d_X11_needSequence_7 rfl rfl (fun c1 => ?_) (fun c1 => ?_)
  · replace h := sm_if c1 h
    obtain rfl := Option.some.inj h
    exact sm_vret d_X11_needSequence_21 rfl rfl rfl
  · replace h := sm_it c1 h
    obtain rfl := Option.some.inj h
    exact sm_throwW lt_X11_131_352_135 d_X11_needSequence_10 d_X11_needSequence_13 d_X11_needSequence_14 d_X11_needSequence_17 d_X11_needSequence_20 (Nat.le_of_ble_eq_true rfl) (Nat.le_of_ble_eq_true rfl) rfl rfl
theorem n_X11_needSequence {F : Nat} {M M1 : sm_M} {v : Option Value} (h : f_X11_needSequence F M = some (.inl v, M1)) : v = none := by
  exact (show sm_nv (f_X11_needSequence F  M) from by unfold f_X11_needSequence; exact sm_nv_if sm_nv_thr sm_nv_ret) _ _ h
theorem c_X11_needSequence {sk : List sm_Sh} (hx : sm_ext skX sk) (F : Nat) (M : sm_M) (r : sm_O × sm_M) (h : f_X11_needSequence F M = some r) : sm_Ct yX11_needSequence md_X11_needSequence 6 sk [.ref 0] M (r.1) r.2 := sm_enter 0 pn_X11 rfl (Nat.le_of_ble_eq_true rfl) rfl (j_X11_needSequence hx F M r h)
/-! UniversalCycles.longestRunStart()I -/
theorem d_X11_longestRunStart_0 : decode cX11_longestRunStart 0 = .ok (.aload_n 0, 1) := by decide +kernel
theorem d_X11_longestRunStart_1 : decode cX11_longestRunStart 1 = .ok (.invokevirtual 209, 3) := by decide +kernel
theorem d_X11_longestRunStart_4 : decode cX11_longestRunStart 4 = .ok (.aload_n 0, 1) := by decide +kernel
theorem d_X11_longestRunStart_5 : decode cX11_longestRunStart 5 = .ok (.getfield 40, 3) := by decide +kernel
theorem d_X11_longestRunStart_8 : decode cX11_longestRunStart 8 = .ok (.aload_n 0, 1) := by decide +kernel
theorem d_X11_longestRunStart_9 : decode cX11_longestRunStart 9 = .ok (.getfield 10, 3) := by decide +kernel
theorem d_X11_longestRunStart_12 : decode cX11_longestRunStart 12 = .ok (.aload_n 0, 1) := by decide +kernel
theorem d_X11_longestRunStart_13 : decode cX11_longestRunStart 13 = .ok (.getfield 26, 3) := by decide +kernel
theorem d_X11_longestRunStart_16 : decode cX11_longestRunStart 16 = .ok (.invokevirtual 175, 3) := by decide +kernel
theorem d_X11_longestRunStart_19 : decode cX11_longestRunStart 19 = .ok (.aload_n 0, 1) := by decide +kernel
theorem d_X11_longestRunStart_20 : decode cX11_longestRunStart 20 = .ok (.getfield 40, 3) := by decide +kernel
theorem d_X11_longestRunStart_23 : decode cX11_longestRunStart 23 = .ok (.invokevirtual 203, 3) := by decide +kernel
theorem d_X11_longestRunStart_26 : decode cX11_longestRunStart 26 = .ok (.aload_n 0, 1) := by decide +kernel
theorem d_X11_longestRunStart_27 : decode cX11_longestRunStart 27 = .ok (.getfield 40, 3) := by decide +kernel
theorem d_X11_longestRunStart_30 : decode cX11_longestRunStart 30 = .ok (.getfield 212, 3) := by decide +kernel
theorem d_X11_longestRunStart_33 : decode cX11_longestRunStart 33 = .ok (.ireturn, 1) := by decide +kernel
def f_X11_longestRunStart (F : Nat) (M : sm_M) : Option (sm_O × sm_M) := sm_bx (f_X11_needSequence F M) (fun M2 => (f_X10_lookAt F 24 M2).bind fun q4 => (f_X10_findRun F q4).bind fun q5 => some (.inl (some (.int (q5.1 52 7))), q5))
set_option maxRecDepth 100000 in
set_option maxHeartbeats 4000000 in
theorem j_X11_longestRunStart {sk : List sm_Sh} (hx : sm_ext skX sk) (F : Nat) : ∀ (M : sm_M) (r : sm_O × sm_M), f_X11_longestRunStart F M = some r → sm_J (md_X11_longestRunStart, 7, sk, r.1, r.2) 0 [some (.ref 0)] [] M := by
  intro   M r h
  unfold f_X11_longestRunStart at h
  refine sm_aload_n (q := 1) d_X11_longestRunStart_0 rfl rfl ?_
  rcases sm_bxs h with ⟨v3, M2, e1, h⟩ | ⟨v3, M2, e1, rfl⟩
  · obtain rfl := n_X11_needSequence e1
    refine sm_callV (q := 4) (d' := 6) [] [] d_X11_longestRunStart_1 rfl lk_X11_209 (hx sx_0) rfl rfl rfl (Nat.le_of_ble_eq_true rfl) (Nat.le_of_ble_eq_true rfl) (c_X11_needSequence hx F M (.inl none, M2) e1) (st9 := []) rfl ?_
    refine sm_aload_n (q := 5) d_X11_longestRunStart_4 rfl rfl ?_
    refine sm_getr (q := 8) d_X11_longestRunStart_5 rfl fl_X11_40 (hx sx_0) rfl ?_
    refine sm_aload_n (q := 9) d_X11_longestRunStart_8 rfl rfl ?_
    refine sm_getr (q := 12) d_X11_longestRunStart_9 rfl fl_X11_10 (hx sx_0) rfl ?_
    refine sm_aload_n (q := 13) d_X11_longestRunStart_12 rfl rfl ?_
    refine sm_getr (q := 16) d_X11_longestRunStart_13 rfl fl_X11_26 (hx sx_0) rfl ?_
    obtain ⟨q4, e4, h⟩ := sm_bd h
    refine sm_callV (q := 19) (d' := 3) [] [.ref 1, .ref 24] d_X11_longestRunStart_16 rfl lk_X11_175 (hx sx_52) rfl rfl rfl (Nat.le_of_ble_eq_true rfl) (Nat.le_of_ble_eq_true rfl) (c_X10_lookAt hx F 24 ⟨hx sx_24, hx sx_25⟩ M2 _ e4) (st9 := []) rfl ?_
    refine sm_aload_n (q := 20) d_X11_longestRunStart_19 rfl rfl ?_
    refine sm_getr (q := 23) d_X11_longestRunStart_20 rfl fl_X11_40 (hx sx_0) rfl ?_
    obtain ⟨q5, e5, h⟩ := sm_bd h
    refine sm_callV (q := 26) (d' := 1) [] [] d_X11_longestRunStart_23 rfl lk_X11_203 (hx sx_52) rfl rfl rfl (Nat.le_of_ble_eq_true rfl) (Nat.le_of_ble_eq_true rfl) (c_X10_findRun hx F q4 _ e5) (st9 := []) rfl ?_
    refine sm_aload_n (q := 27) d_X11_longestRunStart_26 rfl rfl ?_
    refine sm_getr (q := 30) d_X11_longestRunStart_27 rfl fl_X11_40 (hx sx_0) rfl ?_
    refine sm_geti (q := 33) d_X11_longestRunStart_30 rfl fl_X11_212 (hx sx_52) rfl ?_
    obtain rfl := Option.some.inj h
    exact sm_iret d_X11_longestRunStart_33 rfl rfl rfl rfl
  · exact sm_callVX (d' := 6) [] [] d_X11_longestRunStart_1 lk_X11_209 (hx sx_0) rfl rfl rfl (Nat.le_of_ble_eq_true rfl) (Nat.le_of_ble_eq_true rfl) (c_X11_needSequence hx F M (.inr v3, M2) e1) rfl rfl
theorem c_X11_longestRunStart {sk : List sm_Sh} (hx : sm_ext skX sk) (F : Nat) (M : sm_M) (r : sm_O × sm_M) (h : f_X11_longestRunStart F M = some r) : sm_Ct yX11_longestRunStart md_X11_longestRunStart 7 sk [.ref 0] M (r.1) r.2 := sm_enter 0 pn_X11 rfl (Nat.le_of_ble_eq_true rfl) rfl (j_X11_longestRunStart hx F M r h)
/-! UniversalCycles.distinctSymbols()I -/
theorem d_X11_distinctSymbols_0 : decode cX11_distinctSymbols 0 = .ok (.aload_n 0, 1) := by decide +kernel
theorem d_X11_distinctSymbols_1 : decode cX11_distinctSymbols 1 = .ok (.getfield 26, 3) := by decide +kernel
theorem d_X11_distinctSymbols_4 : decode cX11_distinctSymbols 4 = .ok (.invokevirtual 215, 3) := by decide +kernel
theorem d_X11_distinctSymbols_7 : decode cX11_distinctSymbols 7 = .ok (.invokestatic 218, 3) := by decide +kernel
theorem d_X11_distinctSymbols_10 : decode cX11_distinctSymbols 10 = .ok (.ireturn, 1) := by decide +kernel
def f_X11_distinctSymbols (F : Nat) (M : sm_M) : Option (Int32) := (f_X7_symbolMask F 24 M).bind fun q1 => (f_J6_bitCount_0f7a4 F q1 M).bind fun q2 => some q2
set_option maxRecDepth 100000 in
set_option maxHeartbeats 4000000 in
theorem j_X11_distinctSymbols {sk : List sm_Sh} (hx : sm_ext skX sk) (F : Nat) : ∀ (M : sm_M) (r : Int32), f_X11_distinctSymbols F M = some r → sm_J (md_X11_distinctSymbols, 1, sk, .inl (some (.int r)), M) 0 [some (.ref 0)] [] M := by
  intro   M r h
  unfold f_X11_distinctSymbols at h
  refine sm_aload_n (q := 1) d_X11_distinctSymbols_0 rfl rfl ?_
  refine sm_getr (q := 4) d_X11_distinctSymbols_1 rfl fl_X11_26 (hx sx_0) rfl ?_
  obtain ⟨q1, e1, h⟩ := sm_bd h
  refine sm_callV (q := 7) (d' := 0) [] [] d_X11_distinctSymbols_4 rfl lk_X11_215 (hx sx_24) rfl rfl rfl (Nat.le_of_ble_eq_true rfl) (Nat.le_of_ble_eq_true rfl) (c_X7_symbolMask hx F 24 ⟨hx sx_24, hx sx_25⟩ M _ e1) (st9 := [.int q1]) rfl ?_
  obtain ⟨q2, e2, h⟩ := sm_bd h
  refine sm_callS (q := 10) (d' := 0) [] [.int q1] d_X11_distinctSymbols_7 rfl lk_X11_218 rfl (Nat.le_of_ble_eq_true rfl) (Nat.le_of_ble_eq_true rfl) (c_J6_bitCount_0f7a4 hx F q1 M _ e2) (st9 := [.int q2]) rfl ?_
  obtain rfl := Option.some.inj h
  exact sm_iret d_X11_distinctSymbols_10 rfl rfl rfl rfl
theorem c_X11_distinctSymbols {sk : List sm_Sh} (hx : sm_ext skX sk) (F : Nat) (M : sm_M) (r : Int32) (h : f_X11_distinctSymbols F M = some r) : sm_Ct yX11_distinctSymbols md_X11_distinctSymbols 1 sk [.ref 0] M (.inl (some (.int r))) M := sm_enter 0 pn_X11 rfl (Nat.le_of_ble_eq_true rfl) rfl (j_X11_distinctSymbols hx F M r h)
/-! UniversalCycles.compress()I -/
theorem d_X11_compress_0 : decode cX11_compress 0 = .ok (.aload_n 0, 1) := by decide +kernel
theorem d_X11_compress_1 : decode cX11_compress 1 = .ok (.getfield 33, 3) := by decide +kernel
theorem d_X11_compress_4 : decode cX11_compress 4 = .ok (.aload_n 0, 1) := by decide +kernel
theorem d_X11_compress_5 : decode cX11_compress 5 = .ok (.getfield 26, 3) := by decide +kernel
theorem d_X11_compress_8 : decode cX11_compress 8 = .ok (.invokevirtual 136, 3) := by decide +kernel
theorem d_X11_compress_11 : decode cX11_compress 11 = .ok (.pop, 1) := by decide +kernel
theorem d_X11_compress_12 : decode cX11_compress 12 = .ok (.aload_n 0, 1) := by decide +kernel
theorem d_X11_compress_13 : decode cX11_compress 13 = .ok (.getfield 26, 3) := by decide +kernel
theorem d_X11_compress_16 : decode cX11_compress 16 = .ok (.invokevirtual 215, 3) := by decide +kernel
theorem d_X11_compress_19 : decode cX11_compress 19 = .ok (.istore_n 1, 1) := by decide +kernel
theorem d_X11_compress_20 : decode cX11_compress 20 = .ok (.iconst 0, 1) := by decide +kernel
theorem d_X11_compress_21 : decode cX11_compress 21 = .ok (.istore_n 2, 1) := by decide +kernel
theorem d_X11_compress_22 : decode cX11_compress 22 = .ok (.iload_n 2, 1) := by decide +kernel
theorem d_X11_compress_23 : decode cX11_compress 23 = .ok (.aload_n 0, 1) := by decide +kernel
theorem d_X11_compress_24 : decode cX11_compress 24 = .ok (.getfield 26, 3) := by decide +kernel
theorem d_X11_compress_27 : decode cX11_compress 27 = .ok (.getfield 130, 3) := by decide +kernel
theorem d_X11_compress_30 : decode cX11_compress 30 = .ok (.if_icmp .ge 38, 3) := by decide +kernel
theorem d_X11_compress_33 : decode cX11_compress 33 = .ok (.iconst 1, 1) := by decide +kernel
theorem d_X11_compress_34 : decode cX11_compress 34 = .ok (.aload_n 0, 1) := by decide +kernel
theorem d_X11_compress_35 : decode cX11_compress 35 = .ok (.getfield 26, 3) := by decide +kernel
theorem d_X11_compress_38 : decode cX11_compress 38 = .ok (.getfield 146, 3) := by decide +kernel
theorem d_X11_compress_41 : decode cX11_compress 41 = .ok (.iload_n 2, 1) := by decide +kernel
theorem d_X11_compress_42 : decode cX11_compress 42 = .ok (.iaload, 1) := by decide +kernel
theorem d_X11_compress_43 : decode cX11_compress 43 = .ok (.ishl, 1) := by decide +kernel
theorem d_X11_compress_44 : decode cX11_compress 44 = .ok (.iconst 1, 1) := by decide +kernel
theorem d_X11_compress_45 : decode cX11_compress 45 = .ok (.isub, 1) := by decide +kernel
theorem d_X11_compress_46 : decode cX11_compress 46 = .ok (.istore_n 3, 1) := by decide +kernel
theorem d_X11_compress_47 : decode cX11_compress 47 = .ok (.aload_n 0, 1) := by decide +kernel
theorem d_X11_compress_48 : decode cX11_compress 48 = .ok (.getfield 26, 3) := by decide +kernel
theorem d_X11_compress_51 : decode cX11_compress 51 = .ok (.getfield 146, 3) := by decide +kernel
theorem d_X11_compress_54 : decode cX11_compress 54 = .ok (.iload_n 2, 1) := by decide +kernel
theorem d_X11_compress_55 : decode cX11_compress 55 = .ok (.iload_n 1, 1) := by decide +kernel
theorem d_X11_compress_56 : decode cX11_compress 56 = .ok (.iload_n 3, 1) := by decide +kernel
theorem d_X11_compress_57 : decode cX11_compress 57 = .ok (.iand, 1) := by decide +kernel
theorem d_X11_compress_58 : decode cX11_compress 58 = .ok (.invokestatic 218, 3) := by decide +kernel
theorem d_X11_compress_61 : decode cX11_compress 61 = .ok (.iastore, 1) := by decide +kernel
theorem d_X11_compress_62 : decode cX11_compress 62 = .ok (.iinc 2 1, 3) := by decide +kernel
theorem d_X11_compress_65 : decode cX11_compress 65 = .ok (.goto (-43), 3) := by decide +kernel
theorem d_X11_compress_68 : decode cX11_compress 68 = .ok (.iload_n 1, 1) := by decide +kernel
theorem d_X11_compress_69 : decode cX11_compress 69 = .ok (.invokestatic 218, 3) := by decide +kernel
theorem d_X11_compress_72 : decode cX11_compress 72 = .ok (.ireturn, 1) := by decide +kernel
def f_X11_compress_22b (F : Nat) (kb22 : Int32 → Int32 → sm_M → Option (Int32 × sm_M)) (x1 : Int32) (x2 : Int32) (M : sm_M) : Option (Int32 × sm_M) := if (M.1 24 1) ≤ x2 then ((f_J6_bitCount_0f7a4 F x1 M).bind fun q2 => some (q2, M)) else (sm_g (sm_ib x2 240) ((f_J6_bitCount_0f7a4 F (x1 &&& (((1 : Int32) <<< ((M.1 25 x2.toNatClampNeg) &&& 31)) - (1 : Int32))) M).bind fun q4 => sm_g (sm_ib x2 240) (kb22 x1 (x2 + 1) ((sm_mi M 25 x2.toNatClampNeg q4)))))
set_option maxRecDepth 100000 in
set_option maxHeartbeats 4000000 in
theorem j_X11_compress_22b {sk : List sm_Sh} (hx : sm_ext skX sk) (F : Nat) (kb22 : Int32 → Int32 → sm_M → Option (Int32 × sm_M)) (hkb22 : ∀ (x1 : Int32) (x2 : Int32) (M : sm_M) (r : Int32 × sm_M), kb22 x1 x2 M = some r → sm_J (md_X11_compress, 3, sk, .inl (some (.int r.1)), r.2) 22 [some (.ref 0), some (.int x1), some (.int x2), none] [] M) : ∀ (x1 : Int32) (x2 : Int32) (M : sm_M) (r : Int32 × sm_M), f_X11_compress_22b F kb22 x1 x2 M = some r → sm_J (md_X11_compress, 3, sk, .inl (some (.int r.1)), r.2) 22 [some (.ref 0), some (.int x1), some (.int x2), none] [] M := by
  intro x1 x2  M r h
  unfold f_X11_compress_22b at h
  refine sm_iload_n (q := 23) d_X11_compress_22 rfl rfl ?_
  refine sm_aload_n (q := 24) d_X11_compress_23 rfl rfl ?_
  refine sm_getr (q := 27) d_X11_compress_24 rfl fl_X11_26 (hx sx_0) rfl ?_
  refine sm_geti (q := 30) d_X11_compress_27 rfl fl_X11_130 (hx sx_24) rfl ?_
  refine sm_icmp_ge (q := 33) (t := 68) d_X11_compress_30 rfl rfl (fun c1 => ?_) (fun c1 => ?_)
  · replace h := sm_it c1 h
    refine sm_iload_n (q := 69) d_X11_compress_68 rfl rfl ?_
    obtain ⟨q2, e2, h⟩ := sm_bd h
    refine sm_callS (q := 72) (d' := 0) [] [.int x1] d_X11_compress_69 rfl lk_X11_218 rfl (Nat.le_of_ble_eq_true rfl) (Nat.le_of_ble_eq_true rfl) (c_J6_bitCount_0f7a4 hx F x1 M _ e2) (st9 := [.int q2]) rfl ?_
    obtain rfl := Option.some.inj h
    exact sm_iret d_X11_compress_72 rfl rfl rfl rfl
  · replace h := sm_if c1 h
    refine sm_iconst (q := 34) d_X11_compress_33 rfl ci_1 ?_
    refine sm_aload_n (q := 35) d_X11_compress_34 rfl rfl ?_
    refine sm_getr (q := 38) d_X11_compress_35 rfl fl_X11_26 (hx sx_0) rfl ?_
    refine sm_getr (q := 41) d_X11_compress_38 rfl fl_X11_146 (hx sx_24) rfl ?_
    refine sm_iload_n (q := 42) d_X11_compress_41 rfl rfl ?_
    obtain ⟨g3, h⟩ := sm_gt h
    refine sm_iaload (q := 43) d_X11_compress_42 rfl (hx sx_25) (sm_ib_of g3) ?_
    refine sm_ishl (q := 44) d_X11_compress_43 rfl ?_
    refine sm_iconst (q := 45) d_X11_compress_44 rfl ci_1 ?_
    refine sm_isub (q := 46) d_X11_compress_45 rfl ?_
    refine sm_istore_n (q := 47) (lt := [some (.ref 0), some (.int x1), some (.int x2), some (.int (((1 : Int32) <<< ((M.1 25 x2.toNatClampNeg) &&& 31)) - (1 : Int32)))]) d_X11_compress_46 rfl (Nat.le_of_ble_eq_true rfl) rfl rfl ?_
    refine sm_aload_n (q := 48) d_X11_compress_47 rfl rfl ?_
    refine sm_getr (q := 51) d_X11_compress_48 rfl fl_X11_26 (hx sx_0) rfl ?_
    refine sm_getr (q := 54) d_X11_compress_51 rfl fl_X11_146 (hx sx_24) rfl ?_
    refine sm_iload_n (q := 55) d_X11_compress_54 rfl rfl ?_
    refine sm_iload_n (q := 56) d_X11_compress_55 rfl rfl ?_
    refine sm_iload_n (q := 57) d_X11_compress_56 rfl rfl ?_
    refine sm_iand (q := 58) d_X11_compress_57 rfl ?_
    obtain ⟨q4, e4, h⟩ := sm_bd h
    refine sm_callS (q := 61) (d' := 0) [.int x2, .ref 25] [.int (x1 &&& (((1 : Int32) <<< ((M.1 25 x2.toNatClampNeg) &&& 31)) - (1 : Int32)))] d_X11_compress_58 rfl lk_X11_218 rfl (Nat.le_of_ble_eq_true rfl) (Nat.le_of_ble_eq_true rfl) (c_J6_bitCount_0f7a4 hx F (x1 &&& (((1 : Int32) <<< ((M.1 25 x2.toNatClampNeg) &&& 31)) - (1 : Int32))) M _ e4) (st9 := [.int q4, .int x2, .ref 25]) rfl ?_
    obtain ⟨g5, h⟩ := sm_gt h
    refine sm_iastore (q := 62) d_X11_compress_61 rfl (hx sx_25) (sm_ib_of g5) ?_
    refine sm_iinc (q := 65) (v := (x2 + 1)) (lt := [some (.ref 0), some (.int x1), some (.int (x2 + 1)), some (.int (((1 : Int32) <<< ((M.1 25 x2.toNatClampNeg) &&& 31)) - (1 : Int32)))]) d_X11_compress_62 rfl rfl (ii_1 _) (Nat.le_of_ble_eq_true rfl) rfl rfl ?_
    refine sm_goto (t := 22) d_X11_compress_65 rfl ?_
    refine sm_fg [3] ?_
    exact hkb22 x1 (x2 + 1) ((sm_mi M 25 x2.toNatClampNeg q4)) _ h
def f_X11_compress_22 (F : Nat) (n : Nat) : Int32 → Int32 → sm_M → Option (Int32 × sm_M) := match n with
 | 0 => fun _ _ _ => none
 | n + 1 => f_X11_compress_22b F (f_X11_compress_22 F n)
theorem j_X11_compress_22 {sk : List sm_Sh} (hx : sm_ext skX sk) (F : Nat) : ∀ (n : Nat) (x1 : Int32) (x2 : Int32) (M : sm_M) (r : Int32 × sm_M), f_X11_compress_22 F n x1 x2 M = some r → sm_J (md_X11_compress, 3, sk, .inl (some (.int r.1)), r.2) 22 [some (.ref 0), some (.int x1), some (.int x2), none] [] M := by
  intro n
  induction n with
  | zero => intro x1 x2  M r h; exact nomatch (show (none : Option (Int32 × sm_M)) = some r from h)
  | succ n ih => exact j_X11_compress_22b hx F (f_X11_compress_22 F n) ih
def f_X11_compress (F : Nat) (M : sm_M) : Option (Int32 × sm_M) := (f_X6_remember F 24 M).bind fun q1 => (f_X7_symbolMask F 24 q1.2).bind fun q2 => f_X11_compress_22 F F q2 (0 : Int32) q1.2
set_option maxRecDepth 100000 in
set_option maxHeartbeats 4000000 in
theorem j_X11_compress {sk : List sm_Sh} (hx : sm_ext skX sk) (F : Nat) : ∀ (M : sm_M) (r : Int32 × sm_M), f_X11_compress F M = some r → sm_J (md_X11_compress, 3, sk, .inl (some (.int r.1)), r.2) 0 [some (.ref 0), none, none, none] [] M := by
  intro   M r h
  unfold f_X11_compress at h
  refine sm_aload_n (q := 1) d_X11_compress_0 rfl rfl ?_
  refine sm_getr (q := 4) d_X11_compress_1 rfl fl_X11_33 (hx sx_0) rfl ?_
  refine sm_aload_n (q := 5) d_X11_compress_4 rfl rfl ?_
  refine sm_getr (q := 8) d_X11_compress_5 rfl fl_X11_26 (hx sx_0) rfl ?_
  obtain ⟨q1, e1, h⟩ := sm_bd h
  refine sm_callV (q := 11) (d' := 2) [] [.ref 24] d_X11_compress_8 rfl lk_X11_136 (hx sx_26) rfl rfl rfl (Nat.le_of_ble_eq_true rfl) (Nat.le_of_ble_eq_true rfl) (c_X6_remember hx F 24 ⟨hx sx_24, hx sx_25⟩ M _ e1) (st9 := [.ref q1.1]) rfl ?_
  refine sm_pop (q := 12) d_X11_compress_11 rfl rfl ?_
  refine sm_aload_n (q := 13) d_X11_compress_12 rfl rfl ?_
  refine sm_getr (q := 16) d_X11_compress_13 rfl fl_X11_26 (hx sx_0) rfl ?_
  obtain ⟨q2, e2, h⟩ := sm_bd h
  refine sm_callV (q := 19) (d' := 0) [] [] d_X11_compress_16 rfl lk_X11_215 (hx sx_24) rfl rfl rfl (Nat.le_of_ble_eq_true rfl) (Nat.le_of_ble_eq_true rfl) (c_X7_symbolMask hx F 24 ⟨hx sx_24, hx sx_25⟩ q1.2 _ e2) (st9 := [.int q2]) rfl ?_
  refine sm_istore_n (q := 20) (lt := [some (.ref 0), some (.int q2), none, none]) d_X11_compress_19 rfl (Nat.le_of_ble_eq_true rfl) rfl rfl ?_
  refine sm_iconst (q := 21) d_X11_compress_20 rfl ci_0 ?_
  refine sm_istore_n (q := 22) (lt := [some (.ref 0), some (.int q2), some (.int (0 : Int32)), none]) d_X11_compress_21 rfl (Nat.le_of_ble_eq_true rfl) rfl rfl ?_
  exact j_X11_compress_22 hx F F q2 (0 : Int32) q1.2 _ h
theorem c_X11_compress {sk : List sm_Sh} (hx : sm_ext skX sk) (F : Nat) (M : sm_M) (r : Int32 × sm_M) (h : f_X11_compress F M = some r) : sm_Ct yX11_compress md_X11_compress 3 sk [.ref 0] M (.inl (some (.int r.1))) r.2 := sm_enter 3 pn_X11 rfl (Nat.le_of_ble_eq_true rfl) rfl (j_X11_compress hx F M r h)
