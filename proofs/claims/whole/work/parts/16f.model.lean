/-! ===== methods, decompiled: 16f.model ===== -/
/-! UniversalCyclesModel.rotateToLowest()I -/
theorem d_X12_rotateToLowest_0 : decode cX12_rotateToLowest 0 = .ok (.aload_n 0, 1) := by decide +kernel
theorem d_X12_rotateToLowest_1 : decode cX12_rotateToLowest 1 = .ok (.iconst 0, 1) := by decide +kernel
theorem d_X12_rotateToLowest_2 : decode cX12_rotateToLowest 2 = .ok (.putfield 1, 3) := by decide +kernel
theorem d_X12_rotateToLowest_5 : decode cX12_rotateToLowest 5 = .ok (.aload_n 0, 1) := by decide +kernel
theorem d_X12_rotateToLowest_6 : decode cX12_rotateToLowest 6 = .ok (.getfield 125, 3) := by decide +kernel
theorem d_X12_rotateToLowest_9 : decode cX12_rotateToLowest 9 = .ok (.ifCond .ne 9, 3) := by decide +kernel
theorem d_X12_rotateToLowest_12 : decode cX12_rotateToLowest 12 = .ok (.aload_n 0, 1) := by decide +kernel
theorem d_X12_rotateToLowest_13 : decode cX12_rotateToLowest 13 = .ok (.iconst 1, 1) := by decide +kernel
theorem d_X12_rotateToLowest_14 : decode cX12_rotateToLowest 14 = .ok (.invokevirtual 122, 3) := by decide +kernel
theorem d_X12_rotateToLowest_17 : decode cX12_rotateToLowest 17 = .ok (.ireturn, 1) := by decide +kernel
theorem d_X12_rotateToLowest_18 : decode cX12_rotateToLowest 18 = .ok (.iconst 0, 1) := by decide +kernel
theorem d_X12_rotateToLowest_19 : decode cX12_rotateToLowest 19 = .ok (.istore_n 1, 1) := by decide +kernel
theorem d_X12_rotateToLowest_20 : decode cX12_rotateToLowest 20 = .ok (.iconst 1, 1) := by decide +kernel
theorem d_X12_rotateToLowest_21 : decode cX12_rotateToLowest 21 = .ok (.istore_n 2, 1) := by decide +kernel
theorem d_X12_rotateToLowest_22 : decode cX12_rotateToLowest 22 = .ok (.iload_n 2, 1) := by decide +kernel
theorem d_X12_rotateToLowest_23 : decode cX12_rotateToLowest 23 = .ok (.aload_n 0, 1) := by decide +kernel
theorem d_X12_rotateToLowest_24 : decode cX12_rotateToLowest 24 = .ok (.getfield 125, 3) := by decide +kernel
theorem d_X12_rotateToLowest_27 : decode cX12_rotateToLowest 27 = .ok (.if_icmp .ge 24, 3) := by decide +kernel
theorem d_X12_rotateToLowest_30 : decode cX12_rotateToLowest 30 = .ok (.aload_n 0, 1) := by decide +kernel
theorem d_X12_rotateToLowest_31 : decode cX12_rotateToLowest 31 = .ok (.iload_n 2, 1) := by decide +kernel
theorem d_X12_rotateToLowest_32 : decode cX12_rotateToLowest 32 = .ok (.iload_n 1, 1) := by decide +kernel
theorem d_X12_rotateToLowest_33 : decode cX12_rotateToLowest 33 = .ok (.invokevirtual 184, 3) := by decide +kernel
theorem d_X12_rotateToLowest_36 : decode cX12_rotateToLowest 36 = .ok (.ifCond .eq 7, 3) := by decide +kernel
theorem d_X12_rotateToLowest_39 : decode cX12_rotateToLowest 39 = .ok (.iload_n 2, 1) := by decide +kernel
theorem d_X12_rotateToLowest_40 : decode cX12_rotateToLowest 40 = .ok (.goto 4, 3) := by decide +kernel
theorem d_X12_rotateToLowest_43 : decode cX12_rotateToLowest 43 = .ok (.iload_n 1, 1) := by decide +kernel
theorem d_X12_rotateToLowest_44 : decode cX12_rotateToLowest 44 = .ok (.istore_n 1, 1) := by decide +kernel
theorem d_X12_rotateToLowest_45 : decode cX12_rotateToLowest 45 = .ok (.iinc 2 1, 3) := by decide +kernel
theorem d_X12_rotateToLowest_48 : decode cX12_rotateToLowest 48 = .ok (.goto (-26), 3) := by decide +kernel
theorem d_X12_rotateToLowest_51 : decode cX12_rotateToLowest 51 = .ok (.aload_n 0, 1) := by decide +kernel
theorem d_X12_rotateToLowest_52 : decode cX12_rotateToLowest 52 = .ok (.iload_n 1, 1) := by decide +kernel
theorem d_X12_rotateToLowest_53 : decode cX12_rotateToLowest 53 = .ok (.invokevirtual 181, 3) := by decide +kernel
theorem d_X12_rotateToLowest_56 : decode cX12_rotateToLowest 56 = .ok (.aload_n 0, 1) := by decide +kernel
theorem d_X12_rotateToLowest_57 : decode cX12_rotateToLowest 57 = .ok (.aload_n 0, 1) := by decide +kernel
theorem d_X12_rotateToLowest_58 : decode cX12_rotateToLowest 58 = .ok (.getfield 125, 3) := by decide +kernel
theorem d_X12_rotateToLowest_61 : decode cX12_rotateToLowest 61 = .ok (.invokevirtual 144, 3) := by decide +kernel
theorem d_X12_rotateToLowest_64 : decode cX12_rotateToLowest 64 = .ok (.iload_n 1, 1) := by decide +kernel
theorem d_X12_rotateToLowest_65 : decode cX12_rotateToLowest 65 = .ok (.ireturn, 1) := by decide +kernel
def f_X12_rotateToLowest_44 (F : Nat) (kb22 : Int32 → Int32 → sm_M → Option (Int32 × sm_M)) (x2 : Int32) (y0 : Int32) (M : sm_M) : Option (Int32 × sm_M) := kb22 y0 (x2 + 1) M
set_option maxRecDepth 100000 in
set_option maxHeartbeats 4000000 in
theorem j_X12_rotateToLowest_44 {sk : List sm_Sh} (hx : sm_ext skM sk) (F : Nat) (kb22 : Int32 → Int32 → sm_M → Option (Int32 × sm_M)) (hkb22 : ∀ (x1 : Int32) (x2 : Int32) (M : sm_M) (r : Int32 × sm_M), kb22 x1 x2 M = some r → sm_J (md_X12_rotateToLowest, 2, sk, .inl (some (.int r.1)), r.2) 22 [some (.ref 80), some (.int x1), some (.int x2)] [] M) : ∀ (x2 : Int32) (y0 : Int32) (M : sm_M) (r : Int32 × sm_M), f_X12_rotateToLowest_44 F kb22 x2 y0 M = some r → sm_J (md_X12_rotateToLowest, 2, sk, .inl (some (.int r.1)), r.2) 44 [some (.ref 80), none, some (.int x2)] [.int y0] M := by
  intro x2 y0  M r h
  unfold f_X12_rotateToLowest_44 at h
  refine sm_istore_n (q := 45) (lt := [some (.ref 80), some (.int y0), some (.int x2)]) d_X12_rotateToLowest_44 rfl (Nat.le_of_ble_eq_true rfl) rfl rfl ?_
  refine sm_iinc (q := 48) (v := (x2 + 1)) (lt := [some (.ref 80), some (.int y0), some (.int (x2 + 1))]) d_X12_rotateToLowest_45 rfl rfl (ii_1 _) (Nat.le_of_ble_eq_true rfl) rfl rfl ?_
  refine sm_goto (t := 22) d_X12_rotateToLowest_48 rfl ?_
  exact hkb22 y0 (x2 + 1) M _ h
def f_X12_rotateToLowest_22b (F : Nat) (kb22 : Int32 → Int32 → sm_M → Option (Int32 × sm_M)) (x1 : Int32) (x2 : Int32) (M : sm_M) : Option (Int32 × sm_M) := if (M.1 80 12) ≤ x2 then ((f_X12_makeRotated F x1 M).bind fun q2 => (f_X12_replace F (q2.1 80 12) q2).bind fun q3 => some (x1, q3)) else ((f_X12_isLower F x2 x1 M).bind fun q4 => if q4 = 0 then (f_X12_rotateToLowest_44 F kb22 x2 x1 M) else (f_X12_rotateToLowest_44 F kb22 x2 x2 M))
set_option maxRecDepth 100000 in
set_option maxHeartbeats 4000000 in
theorem j_X12_rotateToLowest_22b {sk : List sm_Sh} (hx : sm_ext skM sk) (F : Nat) (kb22 : Int32 → Int32 → sm_M → Option (Int32 × sm_M)) (hkb22 : ∀ (x1 : Int32) (x2 : Int32) (M : sm_M) (r : Int32 × sm_M), kb22 x1 x2 M = some r → sm_J (md_X12_rotateToLowest, 2, sk, .inl (some (.int r.1)), r.2) 22 [some (.ref 80), some (.int x1), some (.int x2)] [] M) : ∀ (x1 : Int32) (x2 : Int32) (M : sm_M) (r : Int32 × sm_M), f_X12_rotateToLowest_22b F kb22 x1 x2 M = some r → sm_J (md_X12_rotateToLowest, 2, sk, .inl (some (.int r.1)), r.2) 22 [some (.ref 80), some (.int x1), some (.int x2)] [] M := by
  intro x1 x2  M r h
  unfold f_X12_rotateToLowest_22b at h
  refine sm_iload_n (q := 23) d_X12_rotateToLowest_22 rfl rfl ?_
  refine sm_aload_n (q := 24) d_X12_rotateToLowest_23 rfl rfl ?_
  refine sm_geti (q := 27) d_X12_rotateToLowest_24 rfl fl_X12_125 (hx sx_80) rfl ?_
  refine sm_icmp_ge (q := 30) (t := 51) d_X12_rotateToLowest_27 rfl rfl (fun c1 => ?_) (fun c1 => ?_)
  · replace h := sm_it c1 h
    refine sm_aload_n (q := 52) d_X12_rotateToLowest_51 rfl rfl ?_
    refine sm_iload_n (q := 53) d_X12_rotateToLowest_52 rfl rfl ?_
    obtain ⟨q2, e2, h⟩ := sm_bd h
    refine sm_callV (q := 56) (d' := 0) [] [.int x1] d_X12_rotateToLowest_53 rfl lk_X12_181 (hx sx_80) rfl rfl rfl (Nat.le_of_ble_eq_true rfl) (Nat.le_of_ble_eq_true rfl) (c_X12_makeRotated hx F x1 M _ e2) (st9 := []) rfl ?_
    refine sm_aload_n (q := 57) d_X12_rotateToLowest_56 rfl rfl ?_
    refine sm_aload_n (q := 58) d_X12_rotateToLowest_57 rfl rfl ?_
    refine sm_geti (q := 61) d_X12_rotateToLowest_58 rfl fl_X12_125 (hx sx_80) rfl ?_
    obtain ⟨q3, e3, h⟩ := sm_bd h
    refine sm_callV (q := 64) (d' := 1) [] [.int (q2.1 80 12)] d_X12_rotateToLowest_61 rfl lk_X12_144 (hx sx_80) rfl rfl rfl (Nat.le_of_ble_eq_true rfl) (Nat.le_of_ble_eq_true rfl) (c_X12_replace hx F (q2.1 80 12) q2 _ e3) (st9 := []) rfl ?_
    refine sm_iload_n (q := 65) d_X12_rotateToLowest_64 rfl rfl ?_
    obtain rfl := Option.some.inj h
    exact sm_iret d_X12_rotateToLowest_65 rfl rfl rfl rfl
  · replace h := sm_if c1 h
    refine sm_aload_n (q := 31) d_X12_rotateToLowest_30 rfl rfl ?_
    refine sm_iload_n (q := 32) d_X12_rotateToLowest_31 rfl rfl ?_
    refine sm_iload_n (q := 33) d_X12_rotateToLowest_32 rfl rfl ?_
    obtain ⟨q4, e4, h⟩ := sm_bd h
    refine sm_callV (q := 36) (d' := 0) [] [.int x2, .int x1] d_X12_rotateToLowest_33 rfl lk_X12_184 (hx sx_80) rfl rfl rfl (Nat.le_of_ble_eq_true rfl) (Nat.le_of_ble_eq_true rfl) (c_X12_isLower hx F x2 x1 M _ e4) (st9 := [.int q4]) rfl ?_
    refine sm_if_eq (q := 39) (t := 43) d_X12_rotateToLowest_36 rfl rfl (fun c5 => ?_) (fun c5 => ?_)
    · replace h := sm_it c5 h
      refine sm_iload_n (q := 44) d_X12_rotateToLowest_43 rfl rfl ?_
      refine sm_fg [1] ?_
      exact j_X12_rotateToLowest_44 hx F kb22 hkb22 x2 x1 M _ h
    · replace h := sm_if c5 h
      refine sm_iload_n (q := 40) d_X12_rotateToLowest_39 rfl rfl ?_
      refine sm_goto (t := 44) d_X12_rotateToLowest_40 rfl ?_
      refine sm_fg [1] ?_
      exact j_X12_rotateToLowest_44 hx F kb22 hkb22 x2 x2 M _ h
def f_X12_rotateToLowest_22 (F : Nat) (n : Nat) : Int32 → Int32 → sm_M → Option (Int32 × sm_M) := match n with
 | 0 => fun _ _ _ => none
 | n + 1 => f_X12_rotateToLowest_22b F (f_X12_rotateToLowest_22 F n)
theorem j_X12_rotateToLowest_22 {sk : List sm_Sh} (hx : sm_ext skM sk) (F : Nat) : ∀ (n : Nat) (x1 : Int32) (x2 : Int32) (M : sm_M) (r : Int32 × sm_M), f_X12_rotateToLowest_22 F n x1 x2 M = some r → sm_J (md_X12_rotateToLowest, 2, sk, .inl (some (.int r.1)), r.2) 22 [some (.ref 80), some (.int x1), some (.int x2)] [] M := by
  intro n
  induction n with
  | zero => intro x1 x2  M r h; exact nomatch (show (none : Option (Int32 × sm_M)) = some r from h)
  | succ n ih => exact j_X12_rotateToLowest_22b hx F (f_X12_rotateToLowest_22 F n) ih
def f_X12_rotateToLowest (F : Nat) (M : sm_M) : Option (Int32 × sm_M) := if (((sm_mi M 80 0 (0 : Int32))).1 80 12) = 0 then ((f_X12_fail F (1 : Int32) (sm_mi M 80 0 (0 : Int32))).bind fun q2 => some (q2.1, q2.2)) else (f_X12_rotateToLowest_22 F F (0 : Int32) (1 : Int32) ((sm_mi M 80 0 (0 : Int32))))
set_option maxRecDepth 100000 in
set_option maxHeartbeats 4000000 in
theorem j_X12_rotateToLowest {sk : List sm_Sh} (hx : sm_ext skM sk) (F : Nat) : ∀ (M : sm_M) (r : Int32 × sm_M), f_X12_rotateToLowest F M = some r → sm_J (md_X12_rotateToLowest, 2, sk, .inl (some (.int r.1)), r.2) 0 [some (.ref 80), none, none] [] M := by
  intro   M r h
  unfold f_X12_rotateToLowest at h
  refine sm_aload_n (q := 1) d_X12_rotateToLowest_0 rfl rfl ?_
  refine sm_iconst (q := 2) d_X12_rotateToLowest_1 rfl ci_0 ?_
  refine sm_puti (q := 5) d_X12_rotateToLowest_2 rfl fw_X12_1 (hx sx_80) rfl rfl rfl ?_
  refine sm_aload_n (q := 6) d_X12_rotateToLowest_5 rfl rfl ?_
  refine sm_geti (q := 9) d_X12_rotateToLowest_6 rfl fl_X12_125 (hx sx_80) rfl ?_
  refine sm_if_ne (q := 12) (t := 18) d_X12_rotateToLowest_9 rfl rfl (fun c1 => ?_) (fun c1 => ?_)
  · replace h := sm_if c1 h
    refine sm_iconst (q := 19) d_X12_rotateToLowest_18 rfl ci_0 ?_
    refine sm_istore_n (q := 20) (lt := [some (.ref 80), some (.int (0 : Int32)), none]) d_X12_rotateToLowest_19 rfl (Nat.le_of_ble_eq_true rfl) rfl rfl ?_
    refine sm_iconst (q := 21) d_X12_rotateToLowest_20 rfl ci_1 ?_
    refine sm_istore_n (q := 22) (lt := [some (.ref 80), some (.int (0 : Int32)), some (.int (1 : Int32))]) d_X12_rotateToLowest_21 rfl (Nat.le_of_ble_eq_true rfl) rfl rfl ?_
    exact j_X12_rotateToLowest_22 hx F F (0 : Int32) (1 : Int32) ((sm_mi M 80 0 (0 : Int32))) _ h
  · replace h := sm_it c1 h
    refine sm_aload_n (q := 13) d_X12_rotateToLowest_12 rfl rfl ?_
    refine sm_iconst (q := 14) d_X12_rotateToLowest_13 rfl ci_1 ?_
    obtain ⟨q2, e2, h⟩ := sm_bd h
    refine sm_callV (q := 17) (d' := 0) [] [.int (1 : Int32)] d_X12_rotateToLowest_14 rfl lk_X12_122 (hx sx_80) rfl rfl rfl (Nat.le_of_ble_eq_true rfl) (Nat.le_of_ble_eq_true rfl) (c_X12_fail hx F (1 : Int32) (sm_mi M 80 0 (0 : Int32)) _ e2) (st9 := [.int q2.1]) rfl ?_
    obtain rfl := Option.some.inj h
    exact sm_iret d_X12_rotateToLowest_17 rfl rfl rfl rfl
theorem c_X12_rotateToLowest {sk : List sm_Sh} (hx : sm_ext skM sk) (F : Nat) (M : sm_M) (r : Int32 × sm_M) (h : f_X12_rotateToLowest F M = some r) : sm_Ct yX12_rotateToLowest md_X12_rotateToLowest 2 sk [.ref 80] M (.inl (some (.int r.1))) r.2 := sm_enter 2 pn_X12 rfl (Nat.le_of_ble_eq_true rfl) rfl (j_X12_rotateToLowest hx F M r h)
/-! UniversalCyclesModel.reverse()I -/
theorem d_X12_reverse_0 : decode cX12_reverse 0 = .ok (.aload_n 0, 1) := by decide +kernel
theorem d_X12_reverse_1 : decode cX12_reverse 1 = .ok (.iconst 0, 1) := by decide +kernel
theorem d_X12_reverse_2 : decode cX12_reverse 2 = .ok (.putfield 1, 3) := by decide +kernel
theorem d_X12_reverse_5 : decode cX12_reverse 5 = .ok (.iconst 0, 1) := by decide +kernel
theorem d_X12_reverse_6 : decode cX12_reverse 6 = .ok (.istore_n 1, 1) := by decide +kernel
theorem d_X12_reverse_7 : decode cX12_reverse 7 = .ok (.iload_n 1, 1) := by decide +kernel
theorem d_X12_reverse_8 : decode cX12_reverse 8 = .ok (.aload_n 0, 1) := by decide +kernel
theorem d_X12_reverse_9 : decode cX12_reverse 9 = .ok (.getfield 125, 3) := by decide +kernel
theorem d_X12_reverse_12 : decode cX12_reverse 12 = .ok (.if_icmp .ge 28, 3) := by decide +kernel
theorem d_X12_reverse_15 : decode cX12_reverse 15 = .ok (.aload_n 0, 1) := by decide +kernel
theorem d_X12_reverse_16 : decode cX12_reverse 16 = .ok (.getfield 45, 3) := by decide +kernel
theorem d_X12_reverse_19 : decode cX12_reverse 19 = .ok (.iload_n 1, 1) := by decide +kernel
theorem d_X12_reverse_20 : decode cX12_reverse 20 = .ok (.aload_n 0, 1) := by decide +kernel
theorem d_X12_reverse_21 : decode cX12_reverse 21 = .ok (.getfield 36, 3) := by decide +kernel
theorem d_X12_reverse_24 : decode cX12_reverse 24 = .ok (.aload_n 0, 1) := by decide +kernel
theorem d_X12_reverse_25 : decode cX12_reverse 25 = .ok (.getfield 125, 3) := by decide +kernel
theorem d_X12_reverse_28 : decode cX12_reverse 28 = .ok (.iconst 1, 1) := by decide +kernel
theorem d_X12_reverse_29 : decode cX12_reverse 29 = .ok (.isub, 1) := by decide +kernel
theorem d_X12_reverse_30 : decode cX12_reverse 30 = .ok (.iload_n 1, 1) := by decide +kernel
theorem d_X12_reverse_31 : decode cX12_reverse 31 = .ok (.isub, 1) := by decide +kernel
theorem d_X12_reverse_32 : decode cX12_reverse 32 = .ok (.iaload, 1) := by decide +kernel
theorem d_X12_reverse_33 : decode cX12_reverse 33 = .ok (.iastore, 1) := by decide +kernel
theorem d_X12_reverse_34 : decode cX12_reverse 34 = .ok (.iinc 1 1, 3) := by decide +kernel
theorem d_X12_reverse_37 : decode cX12_reverse 37 = .ok (.goto (-30), 3) := by decide +kernel
theorem d_X12_reverse_40 : decode cX12_reverse 40 = .ok (.aload_n 0, 1) := by decide +kernel
theorem d_X12_reverse_41 : decode cX12_reverse 41 = .ok (.aload_n 0, 1) := by decide +kernel
theorem d_X12_reverse_42 : decode cX12_reverse 42 = .ok (.getfield 125, 3) := by decide +kernel
theorem d_X12_reverse_45 : decode cX12_reverse 45 = .ok (.invokevirtual 144, 3) := by decide +kernel
theorem d_X12_reverse_48 : decode cX12_reverse 48 = .ok (.aload_n 0, 1) := by decide +kernel
theorem d_X12_reverse_49 : decode cX12_reverse 49 = .ok (.getfield 125, 3) := by decide +kernel
theorem d_X12_reverse_52 : decode cX12_reverse 52 = .ok (.ireturn, 1) := by decide +kernel
def f_X12_reverse_7b (F : Nat) (kb7 : Int32 → sm_M → Option (Int32 × sm_M)) (x1 : Int32) (M : sm_M) : Option (Int32 × sm_M) := if (M.1 80 12) ≤ x1 then ((f_X12_replace F (M.1 80 12) M).bind fun q2 => some ((q2.1 80 12), q2)) else (sm_g (sm_ib (((M.1 80 12) - (1 : Int32)) - x1) 240) (sm_g (sm_ib x1 240) (kb7 (x1 + 1) ((sm_mi M 89 x1.toNatClampNeg (M.1 86 (((M.1 80 12) - (1 : Int32)) - x1).toNatClampNeg))))))
set_option maxRecDepth 100000 in
set_option maxHeartbeats 4000000 in
theorem j_X12_reverse_7b {sk : List sm_Sh} (hx : sm_ext skM sk) (F : Nat) (kb7 : Int32 → sm_M → Option (Int32 × sm_M)) (hkb7 : ∀ (x1 : Int32) (M : sm_M) (r : Int32 × sm_M), kb7 x1 M = some r → sm_J (md_X12_reverse, 2, sk, .inl (some (.int r.1)), r.2) 7 [some (.ref 80), some (.int x1)] [] M) : ∀ (x1 : Int32) (M : sm_M) (r : Int32 × sm_M), f_X12_reverse_7b F kb7 x1 M = some r → sm_J (md_X12_reverse, 2, sk, .inl (some (.int r.1)), r.2) 7 [some (.ref 80), some (.int x1)] [] M := by
  intro x1  M r h
  unfold f_X12_reverse_7b at h
  refine sm_iload_n (q := 8) d_X12_reverse_7 rfl rfl ?_
  refine sm_aload_n (q := 9) d_X12_reverse_8 rfl rfl ?_
  refine sm_geti (q := 12) d_X12_reverse_9 rfl fl_X12_125 (hx sx_80) rfl ?_
  refine sm_icmp_ge (q := 15) (t := 40) d_X12_reverse_12 rfl rfl (fun c1 => ?_) (fun c1 => ?_)
  · replace h := sm_it c1 h
    refine sm_aload_n (q := 41) d_X12_reverse_40 rfl rfl ?_
    refine sm_aload_n (q := 42) d_X12_reverse_41 rfl rfl ?_
    refine sm_geti (q := 45) d_X12_reverse_42 rfl fl_X12_125 (hx sx_80) rfl ?_
    obtain ⟨q2, e2, h⟩ := sm_bd h
    refine sm_callV (q := 48) (d' := 1) [] [.int (M.1 80 12)] d_X12_reverse_45 rfl lk_X12_144 (hx sx_80) rfl rfl rfl (Nat.le_of_ble_eq_true rfl) (Nat.le_of_ble_eq_true rfl) (c_X12_replace hx F (M.1 80 12) M _ e2) (st9 := []) rfl ?_
    refine sm_aload_n (q := 49) d_X12_reverse_48 rfl rfl ?_
    refine sm_geti (q := 52) d_X12_reverse_49 rfl fl_X12_125 (hx sx_80) rfl ?_
    obtain rfl := Option.some.inj h
    exact sm_iret d_X12_reverse_52 rfl rfl rfl rfl
  · replace h := sm_if c1 h
    refine sm_aload_n (q := 16) d_X12_reverse_15 rfl rfl ?_
    refine sm_getr (q := 19) d_X12_reverse_16 rfl fl_X12_45 (hx sx_80) rfl ?_
    refine sm_iload_n (q := 20) d_X12_reverse_19 rfl rfl ?_
    refine sm_aload_n (q := 21) d_X12_reverse_20 rfl rfl ?_
    refine sm_getr (q := 24) d_X12_reverse_21 rfl fl_X12_36 (hx sx_80) rfl ?_
    refine sm_aload_n (q := 25) d_X12_reverse_24 rfl rfl ?_
    refine sm_geti (q := 28) d_X12_reverse_25 rfl fl_X12_125 (hx sx_80) rfl ?_
    refine sm_iconst (q := 29) d_X12_reverse_28 rfl ci_1 ?_
    refine sm_isub (q := 30) d_X12_reverse_29 rfl ?_
    refine sm_iload_n (q := 31) d_X12_reverse_30 rfl rfl ?_
    refine sm_isub (q := 32) d_X12_reverse_31 rfl ?_
    obtain ⟨g3, h⟩ := sm_gt h
    refine sm_iaload (q := 33) d_X12_reverse_32 rfl (hx sx_86) (sm_ib_of g3) ?_
    obtain ⟨g4, h⟩ := sm_gt h
    refine sm_iastore (q := 34) d_X12_reverse_33 rfl (hx sx_89) (sm_ib_of g4) ?_
    refine sm_iinc (q := 37) (v := (x1 + 1)) (lt := [some (.ref 80), some (.int (x1 + 1))]) d_X12_reverse_34 rfl rfl (ii_1 _) (Nat.le_of_ble_eq_true rfl) rfl rfl ?_
    refine sm_goto (t := 7) d_X12_reverse_37 rfl ?_
    exact hkb7 (x1 + 1) ((sm_mi M 89 x1.toNatClampNeg (M.1 86 (((M.1 80 12) - (1 : Int32)) - x1).toNatClampNeg))) _ h
def f_X12_reverse_7 (F : Nat) (n : Nat) : Int32 → sm_M → Option (Int32 × sm_M) := match n with
 | 0 => fun _ _ => none
 | n + 1 => f_X12_reverse_7b F (f_X12_reverse_7 F n)
theorem j_X12_reverse_7 {sk : List sm_Sh} (hx : sm_ext skM sk) (F : Nat) : ∀ (n : Nat) (x1 : Int32) (M : sm_M) (r : Int32 × sm_M), f_X12_reverse_7 F n x1 M = some r → sm_J (md_X12_reverse, 2, sk, .inl (some (.int r.1)), r.2) 7 [some (.ref 80), some (.int x1)] [] M := by
  intro n
  induction n with
  | zero => intro x1  M r h; exact nomatch (show (none : Option (Int32 × sm_M)) = some r from h)
  | succ n ih => exact j_X12_reverse_7b hx F (f_X12_reverse_7 F n) ih
def f_X12_reverse (F : Nat) (M : sm_M) : Option (Int32 × sm_M) := f_X12_reverse_7 F F (0 : Int32) ((sm_mi M 80 0 (0 : Int32)))
set_option maxRecDepth 100000 in
set_option maxHeartbeats 4000000 in
theorem j_X12_reverse {sk : List sm_Sh} (hx : sm_ext skM sk) (F : Nat) : ∀ (M : sm_M) (r : Int32 × sm_M), f_X12_reverse F M = some r → sm_J (md_X12_reverse, 2, sk, .inl (some (.int r.1)), r.2) 0 [some (.ref 80), none] [] M := by
  intro   M r h
  unfold f_X12_reverse at h
  refine sm_aload_n (q := 1) d_X12_reverse_0 rfl rfl ?_
  refine sm_iconst (q := 2) d_X12_reverse_1 rfl ci_0 ?_
  refine sm_puti (q := 5) d_X12_reverse_2 rfl fw_X12_1 (hx sx_80) rfl rfl rfl ?_
  refine sm_iconst (q := 6) d_X12_reverse_5 rfl ci_0 ?_
  refine sm_istore_n (q := 7) (lt := [some (.ref 80), some (.int (0 : Int32))]) d_X12_reverse_6 rfl (Nat.le_of_ble_eq_true rfl) rfl rfl ?_
  exact j_X12_reverse_7 hx F F (0 : Int32) ((sm_mi M 80 0 (0 : Int32))) _ h
theorem c_X12_reverse {sk : List sm_Sh} (hx : sm_ext skM sk) (F : Nat) (M : sm_M) (r : Int32 × sm_M) (h : f_X12_reverse F M = some r) : sm_Ct yX12_reverse md_X12_reverse 2 sk [.ref 80] M (.inl (some (.int r.1))) r.2 := sm_enter 1 pn_X12 rfl (Nat.le_of_ble_eq_true rfl) rfl (j_X12_reverse hx F M r h)
/-! UniversalCyclesModel.complement()I -/
theorem d_X12_complement_0 : decode cX12_complement 0 = .ok (.aload_n 0, 1) := by decide +kernel
theorem d_X12_complement_1 : decode cX12_complement 1 = .ok (.iconst 0, 1) := by decide +kernel
theorem d_X12_complement_2 : decode cX12_complement 2 = .ok (.putfield 1, 3) := by decide +kernel
theorem d_X12_complement_5 : decode cX12_complement 5 = .ok (.iconst 0, 1) := by decide +kernel
theorem d_X12_complement_6 : decode cX12_complement 6 = .ok (.istore_n 1, 1) := by decide +kernel
theorem d_X12_complement_7 : decode cX12_complement 7 = .ok (.iload_n 1, 1) := by decide +kernel
theorem d_X12_complement_8 : decode cX12_complement 8 = .ok (.aload_n 0, 1) := by decide +kernel
theorem d_X12_complement_9 : decode cX12_complement 9 = .ok (.getfield 125, 3) := by decide +kernel
theorem d_X12_complement_12 : decode cX12_complement 12 = .ok (.if_icmp .ge 28, 3) := by decide +kernel
theorem d_X12_complement_15 : decode cX12_complement 15 = .ok (.aload_n 0, 1) := by decide +kernel
theorem d_X12_complement_16 : decode cX12_complement 16 = .ok (.getfield 45, 3) := by decide +kernel
theorem d_X12_complement_19 : decode cX12_complement 19 = .ok (.iload_n 1, 1) := by decide +kernel
theorem d_X12_complement_20 : decode cX12_complement 20 = .ok (.aload_n 0, 1) := by decide +kernel
theorem d_X12_complement_21 : decode cX12_complement 21 = .ok (.getfield 16, 3) := by decide +kernel
theorem d_X12_complement_24 : decode cX12_complement 24 = .ok (.iconst 1, 1) := by decide +kernel
theorem d_X12_complement_25 : decode cX12_complement 25 = .ok (.isub, 1) := by decide +kernel
theorem d_X12_complement_26 : decode cX12_complement 26 = .ok (.aload_n 0, 1) := by decide +kernel
theorem d_X12_complement_27 : decode cX12_complement 27 = .ok (.getfield 36, 3) := by decide +kernel
theorem d_X12_complement_30 : decode cX12_complement 30 = .ok (.iload_n 1, 1) := by decide +kernel
theorem d_X12_complement_31 : decode cX12_complement 31 = .ok (.iaload, 1) := by decide +kernel
theorem d_X12_complement_32 : decode cX12_complement 32 = .ok (.isub, 1) := by decide +kernel
theorem d_X12_complement_33 : decode cX12_complement 33 = .ok (.iastore, 1) := by decide +kernel
theorem d_X12_complement_34 : decode cX12_complement 34 = .ok (.iinc 1 1, 3) := by decide +kernel
theorem d_X12_complement_37 : decode cX12_complement 37 = .ok (.goto (-30), 3) := by decide +kernel
theorem d_X12_complement_40 : decode cX12_complement 40 = .ok (.aload_n 0, 1) := by decide +kernel
theorem d_X12_complement_41 : decode cX12_complement 41 = .ok (.aload_n 0, 1) := by decide +kernel
theorem d_X12_complement_42 : decode cX12_complement 42 = .ok (.getfield 125, 3) := by decide +kernel
theorem d_X12_complement_45 : decode cX12_complement 45 = .ok (.invokevirtual 144, 3) := by decide +kernel
theorem d_X12_complement_48 : decode cX12_complement 48 = .ok (.aload_n 0, 1) := by decide +kernel
theorem d_X12_complement_49 : decode cX12_complement 49 = .ok (.getfield 125, 3) := by decide +kernel
theorem d_X12_complement_52 : decode cX12_complement 52 = .ok (.ireturn, 1) := by decide +kernel
def f_X12_complement_7b (F : Nat) (kb7 : Int32 → sm_M → Option (Int32 × sm_M)) (x1 : Int32) (M : sm_M) : Option (Int32 × sm_M) := if (M.1 80 12) ≤ x1 then ((f_X12_replace F (M.1 80 12) M).bind fun q2 => some ((q2.1 80 12), q2)) else (sm_g (sm_ib x1 240) (sm_g (sm_ib x1 240) (kb7 (x1 + 1) ((sm_mi M 89 x1.toNatClampNeg (((M.1 80 3) - (1 : Int32)) - (M.1 86 x1.toNatClampNeg)))))))
set_option maxRecDepth 100000 in
set_option maxHeartbeats 4000000 in
theorem j_X12_complement_7b {sk : List sm_Sh} (hx : sm_ext skM sk) (F : Nat) (kb7 : Int32 → sm_M → Option (Int32 × sm_M)) (hkb7 : ∀ (x1 : Int32) (M : sm_M) (r : Int32 × sm_M), kb7 x1 M = some r → sm_J (md_X12_complement, 2, sk, .inl (some (.int r.1)), r.2) 7 [some (.ref 80), some (.int x1)] [] M) : ∀ (x1 : Int32) (M : sm_M) (r : Int32 × sm_M), f_X12_complement_7b F kb7 x1 M = some r → sm_J (md_X12_complement, 2, sk, .inl (some (.int r.1)), r.2) 7 [some (.ref 80), some (.int x1)] [] M := by
  intro x1  M r h
  unfold f_X12_complement_7b at h
  refine sm_iload_n (q := 8) d_X12_complement_7 rfl rfl ?_
  refine sm_aload_n (q := 9) d_X12_complement_8 rfl rfl ?_
  refine sm_geti (q := 12) d_X12_complement_9 rfl fl_X12_125 (hx sx_80) rfl ?_
  refine sm_icmp_ge (q := 15) (t := 40) d_X12_complement_12 rfl rfl (fun c1 => ?_) (fun c1 => ?_)
  · replace h := sm_it c1 h
    refine sm_aload_n (q := 41) d_X12_complement_40 rfl rfl ?_
    refine sm_aload_n (q := 42) d_X12_complement_41 rfl rfl ?_
    refine sm_geti (q := 45) d_X12_complement_42 rfl fl_X12_125 (hx sx_80) rfl ?_
    obtain ⟨q2, e2, h⟩ := sm_bd h
    refine sm_callV (q := 48) (d' := 1) [] [.int (M.1 80 12)] d_X12_complement_45 rfl lk_X12_144 (hx sx_80) rfl rfl rfl (Nat.le_of_ble_eq_true rfl) (Nat.le_of_ble_eq_true rfl) (c_X12_replace hx F (M.1 80 12) M _ e2) (st9 := []) rfl ?_
    refine sm_aload_n (q := 49) d_X12_complement_48 rfl rfl ?_
    refine sm_geti (q := 52) d_X12_complement_49 rfl fl_X12_125 (hx sx_80) rfl ?_
    obtain rfl := Option.some.inj h
    exact sm_iret d_X12_complement_52 rfl rfl rfl rfl
  · replace h := sm_if c1 h
    refine sm_aload_n (q := 16) d_X12_complement_15 rfl rfl ?_
    refine sm_getr (q := 19) d_X12_complement_16 rfl fl_X12_45 (hx sx_80) rfl ?_
    refine sm_iload_n (q := 20) d_X12_complement_19 rfl rfl ?_
    refine sm_aload_n (q := 21) d_X12_complement_20 rfl rfl ?_
    refine sm_geti (q := 24) d_X12_complement_21 rfl fl_X12_16 (hx sx_80) rfl ?_
    refine sm_iconst (q := 25) d_X12_complement_24 rfl ci_1 ?_
    refine sm_isub (q := 26) d_X12_complement_25 rfl ?_
    refine sm_aload_n (q := 27) d_X12_complement_26 rfl rfl ?_
    refine sm_getr (q := 30) d_X12_complement_27 rfl fl_X12_36 (hx sx_80) rfl ?_
    refine sm_iload_n (q := 31) d_X12_complement_30 rfl rfl ?_
    obtain ⟨g3, h⟩ := sm_gt h
    refine sm_iaload (q := 32) d_X12_complement_31 rfl (hx sx_86) (sm_ib_of g3) ?_
    refine sm_isub (q := 33) d_X12_complement_32 rfl ?_
    obtain ⟨g4, h⟩ := sm_gt h
    refine sm_iastore (q := 34) d_X12_complement_33 rfl (hx sx_89) (sm_ib_of g4) ?_
    refine sm_iinc (q := 37) (v := (x1 + 1)) (lt := [some (.ref 80), some (.int (x1 + 1))]) d_X12_complement_34 rfl rfl (ii_1 _) (Nat.le_of_ble_eq_true rfl) rfl rfl ?_
    refine sm_goto (t := 7) d_X12_complement_37 rfl ?_
    exact hkb7 (x1 + 1) ((sm_mi M 89 x1.toNatClampNeg (((M.1 80 3) - (1 : Int32)) - (M.1 86 x1.toNatClampNeg)))) _ h
def f_X12_complement_7 (F : Nat) (n : Nat) : Int32 → sm_M → Option (Int32 × sm_M) := match n with
 | 0 => fun _ _ => none
 | n + 1 => f_X12_complement_7b F (f_X12_complement_7 F n)
theorem j_X12_complement_7 {sk : List sm_Sh} (hx : sm_ext skM sk) (F : Nat) : ∀ (n : Nat) (x1 : Int32) (M : sm_M) (r : Int32 × sm_M), f_X12_complement_7 F n x1 M = some r → sm_J (md_X12_complement, 2, sk, .inl (some (.int r.1)), r.2) 7 [some (.ref 80), some (.int x1)] [] M := by
  intro n
  induction n with
  | zero => intro x1  M r h; exact nomatch (show (none : Option (Int32 × sm_M)) = some r from h)
  | succ n ih => exact j_X12_complement_7b hx F (f_X12_complement_7 F n) ih
def f_X12_complement (F : Nat) (M : sm_M) : Option (Int32 × sm_M) := f_X12_complement_7 F F (0 : Int32) ((sm_mi M 80 0 (0 : Int32)))
set_option maxRecDepth 100000 in
set_option maxHeartbeats 4000000 in
theorem j_X12_complement {sk : List sm_Sh} (hx : sm_ext skM sk) (F : Nat) : ∀ (M : sm_M) (r : Int32 × sm_M), f_X12_complement F M = some r → sm_J (md_X12_complement, 2, sk, .inl (some (.int r.1)), r.2) 0 [some (.ref 80), none] [] M := by
  intro   M r h
  unfold f_X12_complement at h
  refine sm_aload_n (q := 1) d_X12_complement_0 rfl rfl ?_
  refine sm_iconst (q := 2) d_X12_complement_1 rfl ci_0 ?_
  refine sm_puti (q := 5) d_X12_complement_2 rfl fw_X12_1 (hx sx_80) rfl rfl rfl ?_
  refine sm_iconst (q := 6) d_X12_complement_5 rfl ci_0 ?_
  refine sm_istore_n (q := 7) (lt := [some (.ref 80), some (.int (0 : Int32))]) d_X12_complement_6 rfl (Nat.le_of_ble_eq_true rfl) rfl rfl ?_
  exact j_X12_complement_7 hx F F (0 : Int32) ((sm_mi M 80 0 (0 : Int32))) _ h
theorem c_X12_complement {sk : List sm_Sh} (hx : sm_ext skM sk) (F : Nat) (M : sm_M) (r : Int32 × sm_M) (h : f_X12_complement F M = some r) : sm_Ct yX12_complement md_X12_complement 2 sk [.ref 80] M (.inl (some (.int r.1))) r.2 := sm_enter 1 pn_X12 rfl (Nat.le_of_ble_eq_true rfl) rfl (j_X12_complement hx F M r h)
/-! UniversalCyclesModel.exchange(II)I -/
theorem d_X12_exchange_0 : decode cX12_exchange 0 = .ok (.aload_n 0, 1) := by decide +kernel
theorem d_X12_exchange_1 : decode cX12_exchange 1 = .ok (.iconst 0, 1) := by decide +kernel
theorem d_X12_exchange_2 : decode cX12_exchange 2 = .ok (.putfield 1, 3) := by decide +kernel
theorem d_X12_exchange_5 : decode cX12_exchange 5 = .ok (.aload_n 0, 1) := by decide +kernel
theorem d_X12_exchange_6 : decode cX12_exchange 6 = .ok (.iload_n 1, 1) := by decide +kernel
theorem d_X12_exchange_7 : decode cX12_exchange 7 = .ok (.invokevirtual 138, 3) := by decide +kernel
theorem d_X12_exchange_10 : decode cX12_exchange 10 = .ok (.ifCond .eq 11, 3) := by decide +kernel
theorem d_X12_exchange_13 : decode cX12_exchange 13 = .ok (.aload_n 0, 1) := by decide +kernel
theorem d_X12_exchange_14 : decode cX12_exchange 14 = .ok (.iload_n 2, 1) := by decide +kernel
theorem d_X12_exchange_15 : decode cX12_exchange 15 = .ok (.invokevirtual 138, 3) := by decide +kernel
theorem d_X12_exchange_18 : decode cX12_exchange 18 = .ok (.ifCond .ne 9, 3) := by decide +kernel
theorem d_X12_exchange_21 : decode cX12_exchange 21 = .ok (.aload_n 0, 1) := by decide +kernel
theorem d_X12_exchange_22 : decode cX12_exchange 22 = .ok (.iconst 1, 1) := by decide +kernel
theorem d_X12_exchange_23 : decode cX12_exchange 23 = .ok (.invokevirtual 122, 3) := by decide +kernel
theorem d_X12_exchange_26 : decode cX12_exchange 26 = .ok (.ireturn, 1) := by decide +kernel
theorem d_X12_exchange_27 : decode cX12_exchange 27 = .ok (.iconst 0, 1) := by decide +kernel
theorem d_X12_exchange_28 : decode cX12_exchange 28 = .ok (.istore_n 3, 1) := by decide +kernel
theorem d_X12_exchange_29 : decode cX12_exchange 29 = .ok (.iconst 0, 1) := by decide +kernel
theorem d_X12_exchange_30 : decode cX12_exchange 30 = .ok (.istore 4, 2) := by decide +kernel
theorem d_X12_exchange_32 : decode cX12_exchange 32 = .ok (.iload 4, 2) := by decide +kernel
theorem d_X12_exchange_34 : decode cX12_exchange 34 = .ok (.aload_n 0, 1) := by decide +kernel
theorem d_X12_exchange_35 : decode cX12_exchange 35 = .ok (.getfield 125, 3) := by decide +kernel
theorem d_X12_exchange_38 : decode cX12_exchange 38 = .ok (.if_icmp .ge 67, 3) := by decide +kernel
theorem d_X12_exchange_41 : decode cX12_exchange 41 = .ok (.aload_n 0, 1) := by decide +kernel
theorem d_X12_exchange_42 : decode cX12_exchange 42 = .ok (.getfield 36, 3) := by decide +kernel
theorem d_X12_exchange_45 : decode cX12_exchange 45 = .ok (.iload 4, 2) := by decide +kernel
theorem d_X12_exchange_47 : decode cX12_exchange 47 = .ok (.iaload, 1) := by decide +kernel
theorem d_X12_exchange_48 : decode cX12_exchange 48 = .ok (.istore 5, 2) := by decide +kernel
theorem d_X12_exchange_50 : decode cX12_exchange 50 = .ok (.aload_n 0, 1) := by decide +kernel
theorem d_X12_exchange_51 : decode cX12_exchange 51 = .ok (.getfield 45, 3) := by decide +kernel
theorem d_X12_exchange_54 : decode cX12_exchange 54 = .ok (.iload 4, 2) := by decide +kernel
theorem d_X12_exchange_56 : decode cX12_exchange 56 = .ok (.iload 5, 2) := by decide +kernel
theorem d_X12_exchange_58 : decode cX12_exchange 58 = .ok (.iload_n 1, 1) := by decide +kernel
theorem d_X12_exchange_59 : decode cX12_exchange 59 = .ok (.if_icmp .ne 7, 3) := by decide +kernel
theorem d_X12_exchange_62 : decode cX12_exchange 62 = .ok (.iload_n 2, 1) := by decide +kernel
theorem d_X12_exchange_63 : decode cX12_exchange 63 = .ok (.goto 15, 3) := by decide +kernel
theorem d_X12_exchange_66 : decode cX12_exchange 66 = .ok (.iload 5, 2) := by decide +kernel
theorem d_X12_exchange_68 : decode cX12_exchange 68 = .ok (.iload_n 2, 1) := by decide +kernel
theorem d_X12_exchange_69 : decode cX12_exchange 69 = .ok (.if_icmp .ne 7, 3) := by decide +kernel
theorem d_X12_exchange_72 : decode cX12_exchange 72 = .ok (.iload_n 1, 1) := by decide +kernel
theorem d_X12_exchange_73 : decode cX12_exchange 73 = .ok (.goto 5, 3) := by decide +kernel
theorem d_X12_exchange_76 : decode cX12_exchange 76 = .ok (.iload 5, 2) := by decide +kernel
theorem d_X12_exchange_78 : decode cX12_exchange 78 = .ok (.iastore, 1) := by decide +kernel
theorem d_X12_exchange_79 : decode cX12_exchange 79 = .ok (.iload_n 3, 1) := by decide +kernel
theorem d_X12_exchange_80 : decode cX12_exchange 80 = .ok (.iload 5, 2) := by decide +kernel
theorem d_X12_exchange_82 : decode cX12_exchange 82 = .ok (.iload_n 1, 1) := by decide +kernel
theorem d_X12_exchange_83 : decode cX12_exchange 83 = .ok (.if_icmp .eq 9, 3) := by decide +kernel
theorem d_X12_exchange_86 : decode cX12_exchange 86 = .ok (.iload 5, 2) := by decide +kernel
theorem d_X12_exchange_88 : decode cX12_exchange 88 = .ok (.iload_n 2, 1) := by decide +kernel
theorem d_X12_exchange_89 : decode cX12_exchange 89 = .ok (.if_icmp .ne 7, 3) := by decide +kernel
theorem d_X12_exchange_92 : decode cX12_exchange 92 = .ok (.iconst 1, 1) := by decide +kernel
theorem d_X12_exchange_93 : decode cX12_exchange 93 = .ok (.goto 4, 3) := by decide +kernel
theorem d_X12_exchange_96 : decode cX12_exchange 96 = .ok (.iconst 0, 1) := by decide +kernel
theorem d_X12_exchange_97 : decode cX12_exchange 97 = .ok (.iadd, 1) := by decide +kernel
theorem d_X12_exchange_98 : decode cX12_exchange 98 = .ok (.istore_n 3, 1) := by decide +kernel
theorem d_X12_exchange_99 : decode cX12_exchange 99 = .ok (.iinc 4 1, 3) := by decide +kernel
theorem d_X12_exchange_102 : decode cX12_exchange 102 = .ok (.goto (-70), 3) := by decide +kernel
theorem d_X12_exchange_105 : decode cX12_exchange 105 = .ok (.aload_n 0, 1) := by decide +kernel
theorem d_X12_exchange_106 : decode cX12_exchange 106 = .ok (.aload_n 0, 1) := by decide +kernel
theorem d_X12_exchange_107 : decode cX12_exchange 107 = .ok (.getfield 125, 3) := by decide +kernel
theorem d_X12_exchange_110 : decode cX12_exchange 110 = .ok (.invokevirtual 144, 3) := by decide +kernel
theorem d_X12_exchange_113 : decode cX12_exchange 113 = .ok (.iload_n 3, 1) := by decide +kernel
theorem d_X12_exchange_114 : decode cX12_exchange 114 = .ok (.ireturn, 1) := by decide +kernel
def f_X12_exchange_21 (F : Nat) (M : sm_M) : Option (Int32 × sm_M) := (f_X12_fail F (1 : Int32) M).bind fun q1 => some (q1.1, q1.2)
set_option maxRecDepth 100000 in
set_option maxHeartbeats 4000000 in
theorem j_X12_exchange_21 {sk : List sm_Sh} (hx : sm_ext skM sk) (F : Nat) : ∀ (M : sm_M) (r : Int32 × sm_M), f_X12_exchange_21 F M = some r → sm_J (md_X12_exchange, 2, sk, .inl (some (.int r.1)), r.2) 21 [some (.ref 80), none, none, none, none, none] [] M := by
  intro   M r h
  unfold f_X12_exchange_21 at h
  refine sm_aload_n (q := 22) d_X12_exchange_21 rfl rfl ?_
  refine sm_iconst (q := 23) d_X12_exchange_22 rfl ci_1 ?_
  obtain ⟨q1, e1, h⟩ := sm_bd h
  refine sm_callV (q := 26) (d' := 0) [] [.int (1 : Int32)] d_X12_exchange_23 rfl lk_X12_122 (hx sx_80) rfl rfl rfl (Nat.le_of_ble_eq_true rfl) (Nat.le_of_ble_eq_true rfl) (c_X12_fail hx F (1 : Int32) M _ e1) (st9 := [.int q1.1]) rfl ?_
  obtain rfl := Option.some.inj h
  exact sm_iret d_X12_exchange_26 rfl rfl rfl rfl
def f_X12_exchange_97 (F : Nat) (kb32 : Int32 → Int32 → Int32 → Int32 → sm_M → Option (Int32 × sm_M)) (x1 : Int32) (x2 : Int32) (x4 : Int32) (y0 : Int32) (y1 : Int32) (M : sm_M) : Option (Int32 × sm_M) := kb32 x1 x2 (y0 + y1) (x4 + 1) M
set_option maxRecDepth 100000 in
set_option maxHeartbeats 4000000 in
theorem j_X12_exchange_97 {sk : List sm_Sh} (hx : sm_ext skM sk) (F : Nat) (kb32 : Int32 → Int32 → Int32 → Int32 → sm_M → Option (Int32 × sm_M)) (hkb32 : ∀ (x1 : Int32) (x2 : Int32) (x3 : Int32) (x4 : Int32) (M : sm_M) (r : Int32 × sm_M), kb32 x1 x2 x3 x4 M = some r → sm_J (md_X12_exchange, 2, sk, .inl (some (.int r.1)), r.2) 32 [some (.ref 80), some (.int x1), some (.int x2), some (.int x3), some (.int x4), none] [] M) : ∀ (x1 : Int32) (x2 : Int32) (x4 : Int32) (y0 : Int32) (y1 : Int32) (M : sm_M) (r : Int32 × sm_M), f_X12_exchange_97 F kb32 x1 x2 x4 y0 y1 M = some r → sm_J (md_X12_exchange, 2, sk, .inl (some (.int r.1)), r.2) 97 [some (.ref 80), some (.int x1), some (.int x2), none, some (.int x4), none] [.int y1, .int y0] M := by
  intro x1 x2 x4 y0 y1  M r h
  unfold f_X12_exchange_97 at h
  refine sm_iadd (q := 98) d_X12_exchange_97 rfl ?_
  refine sm_istore_n (q := 99) (lt := [some (.ref 80), some (.int x1), some (.int x2), some (.int (y0 + y1)), some (.int x4), none]) d_X12_exchange_98 rfl (Nat.le_of_ble_eq_true rfl) rfl rfl ?_
  refine sm_iinc (q := 102) (v := (x4 + 1)) (lt := [some (.ref 80), some (.int x1), some (.int x2), some (.int (y0 + y1)), some (.int (x4 + 1)), none]) d_X12_exchange_99 rfl rfl (ii_1 _) (Nat.le_of_ble_eq_true rfl) rfl rfl ?_
  refine sm_goto (t := 32) d_X12_exchange_102 rfl ?_
  exact hkb32 x1 x2 (y0 + y1) (x4 + 1) M _ h
def f_X12_exchange_92 (F : Nat) (kb32 : Int32 → Int32 → Int32 → Int32 → sm_M → Option (Int32 × sm_M)) (x1 : Int32) (x2 : Int32) (x4 : Int32) (y0 : Int32) (M : sm_M) : Option (Int32 × sm_M) := f_X12_exchange_97 F kb32 x1 x2 x4 y0 (1 : Int32) M
set_option maxRecDepth 100000 in
set_option maxHeartbeats 4000000 in
theorem j_X12_exchange_92 {sk : List sm_Sh} (hx : sm_ext skM sk) (F : Nat) (kb32 : Int32 → Int32 → Int32 → Int32 → sm_M → Option (Int32 × sm_M)) (hkb32 : ∀ (x1 : Int32) (x2 : Int32) (x3 : Int32) (x4 : Int32) (M : sm_M) (r : Int32 × sm_M), kb32 x1 x2 x3 x4 M = some r → sm_J (md_X12_exchange, 2, sk, .inl (some (.int r.1)), r.2) 32 [some (.ref 80), some (.int x1), some (.int x2), some (.int x3), some (.int x4), none] [] M) : ∀ (x1 : Int32) (x2 : Int32) (x4 : Int32) (y0 : Int32) (M : sm_M) (r : Int32 × sm_M), f_X12_exchange_92 F kb32 x1 x2 x4 y0 M = some r → sm_J (md_X12_exchange, 2, sk, .inl (some (.int r.1)), r.2) 92 [some (.ref 80), some (.int x1), some (.int x2), none, some (.int x4), none] [.int y0] M := by
  intro x1 x2 x4 y0  M r h
  unfold f_X12_exchange_92 at h
  refine sm_iconst (q := 93) d_X12_exchange_92 rfl ci_1 ?_
  refine sm_goto (t := 97) d_X12_exchange_93 rfl ?_
  exact j_X12_exchange_97 hx F kb32 hkb32 x1 x2 x4 y0 (1 : Int32) M _ h
def f_X12_exchange_78 (F : Nat) (kb32 : Int32 → Int32 → Int32 → Int32 → sm_M → Option (Int32 × sm_M)) (x1 : Int32) (x2 : Int32) (x3 : Int32) (x4 : Int32) (x5 : Int32) (y1 : Int32) (y2 : Int32) (M : sm_M) : Option (Int32 × sm_M) := sm_g (sm_ib y1 240) (if x5 = x1 then (f_X12_exchange_92 F kb32 x1 x2 x4 x3 ((sm_mi M 89 y1.toNatClampNeg y2))) else (if x5 = x2 then (f_X12_exchange_92 F kb32 x1 x2 x4 x3 ((sm_mi M 89 y1.toNatClampNeg y2))) else (f_X12_exchange_97 F kb32 x1 x2 x4 x3 (0 : Int32) ((sm_mi M 89 y1.toNatClampNeg y2)))))
set_option maxRecDepth 100000 in
set_option maxHeartbeats 4000000 in
theorem j_X12_exchange_78 {sk : List sm_Sh} (hx : sm_ext skM sk) (F : Nat) (kb32 : Int32 → Int32 → Int32 → Int32 → sm_M → Option (Int32 × sm_M)) (hkb32 : ∀ (x1 : Int32) (x2 : Int32) (x3 : Int32) (x4 : Int32) (M : sm_M) (r : Int32 × sm_M), kb32 x1 x2 x3 x4 M = some r → sm_J (md_X12_exchange, 2, sk, .inl (some (.int r.1)), r.2) 32 [some (.ref 80), some (.int x1), some (.int x2), some (.int x3), some (.int x4), none] [] M) : ∀ (x1 : Int32) (x2 : Int32) (x3 : Int32) (x4 : Int32) (x5 : Int32) (y1 : Int32) (y2 : Int32) (M : sm_M) (r : Int32 × sm_M), f_X12_exchange_78 F kb32 x1 x2 x3 x4 x5 y1 y2 M = some r → sm_J (md_X12_exchange, 2, sk, .inl (some (.int r.1)), r.2) 78 [some (.ref 80), some (.int x1), some (.int x2), some (.int x3), some (.int x4), some (.int x5)] [.int y2, .int y1, .ref 89] M := by
  intro x1 x2 x3 x4 x5 y1 y2  M r h
  unfold f_X12_exchange_78 at h
  obtain ⟨g1, h⟩ := sm_gt h
  refine sm_iastore (q := 79) d_X12_exchange_78 rfl (hx sx_89) (sm_ib_of g1) ?_
  refine sm_iload_n (q := 80) d_X12_exchange_79 rfl rfl ?_
  refine sm_iload (q := 82) d_X12_exchange_80 rfl rfl ?_
  refine sm_iload_n (q := 83) d_X12_exchange_82 rfl rfl ?_
  refine sm_icmp_eq (q := 86) (t := 92) d_X12_exchange_83 rfl rfl (fun c2 => ?_) (fun c2 => ?_)
  · replace h := sm_it c2 h
    refine sm_fg [3, 5] ?_
    exact j_X12_exchange_92 hx F kb32 hkb32 x1 x2 x4 x3 ((sm_mi M 89 y1.toNatClampNeg y2)) _ h
  · replace h := sm_if c2 h
    refine sm_iload (q := 88) d_X12_exchange_86 rfl rfl ?_
    refine sm_iload_n (q := 89) d_X12_exchange_88 rfl rfl ?_
    refine sm_icmp_ne (q := 92) (t := 96) d_X12_exchange_89 rfl rfl (fun c3 => ?_) (fun c3 => ?_)
    · replace h := sm_if c3 h
      refine sm_iconst (q := 97) d_X12_exchange_96 rfl ci_0 ?_
      refine sm_fg [3, 5] ?_
      exact j_X12_exchange_97 hx F kb32 hkb32 x1 x2 x4 x3 (0 : Int32) ((sm_mi M 89 y1.toNatClampNeg y2)) _ h
    · replace h := sm_it c3 h
      refine sm_fg [3, 5] ?_
      exact j_X12_exchange_92 hx F kb32 hkb32 x1 x2 x4 x3 ((sm_mi M 89 y1.toNatClampNeg y2)) _ h
def f_X12_exchange_32b (F : Nat) (kb32 : Int32 → Int32 → Int32 → Int32 → sm_M → Option (Int32 × sm_M)) (x1 : Int32) (x2 : Int32) (x3 : Int32) (x4 : Int32) (M : sm_M) : Option (Int32 × sm_M) := if (M.1 80 12) ≤ x4 then ((f_X12_replace F (M.1 80 12) M).bind fun q2 => some (x3, q2)) else (sm_g (sm_ib x4 240) (if (M.1 86 x4.toNatClampNeg) = x1 then (f_X12_exchange_78 F kb32 x1 x2 x3 x4 (M.1 86 x4.toNatClampNeg) x4 x2 M) else (if (M.1 86 x4.toNatClampNeg) = x2 then (f_X12_exchange_78 F kb32 x1 x2 x3 x4 (M.1 86 x4.toNatClampNeg) x4 x1 M) else (f_X12_exchange_78 F kb32 x1 x2 x3 x4 (M.1 86 x4.toNatClampNeg) x4 (M.1 86 x4.toNatClampNeg) M))))
set_option maxRecDepth 100000 in
set_option maxHeartbeats 4000000 in
theorem j_X12_exchange_32b {sk : List sm_Sh} (hx : sm_ext skM sk) (F : Nat) (kb32 : Int32 → Int32 → Int32 → Int32 → sm_M → Option (Int32 × sm_M)) (hkb32 : ∀ (x1 : Int32) (x2 : Int32) (x3 : Int32) (x4 : Int32) (M : sm_M) (r : Int32 × sm_M), kb32 x1 x2 x3 x4 M = some r → sm_J (md_X12_exchange, 2, sk, .inl (some (.int r.1)), r.2) 32 [some (.ref 80), some (.int x1), some (.int x2), some (.int x3), some (.int x4), none] [] M) : ∀ (x1 : Int32) (x2 : Int32) (x3 : Int32) (x4 : Int32) (M : sm_M) (r : Int32 × sm_M), f_X12_exchange_32b F kb32 x1 x2 x3 x4 M = some r → sm_J (md_X12_exchange, 2, sk, .inl (some (.int r.1)), r.2) 32 [some (.ref 80), some (.int x1), some (.int x2), some (.int x3), some (.int x4), none] [] M := by
  intro x1 x2 x3 x4  M r h
  unfold f_X12_exchange_32b at h
  refine sm_iload (q := 34) d_X12_exchange_32 rfl rfl ?_
  refine sm_aload_n (q := 35) d_X12_exchange_34 rfl rfl ?_
  refine sm_geti (q := 38) d_X12_exchange_35 rfl fl_X12_125 (hx sx_80) rfl ?_
  refine sm_icmp_ge (q := 41) (t := 105) d_X12_exchange_38 rfl rfl (fun c1 => ?_) (fun c1 => ?_)
  · replace h := sm_it c1 h
    refine sm_aload_n (q := 106) d_X12_exchange_105 rfl rfl ?_
    refine sm_aload_n (q := 107) d_X12_exchange_106 rfl rfl ?_
    refine sm_geti (q := 110) d_X12_exchange_107 rfl fl_X12_125 (hx sx_80) rfl ?_
    obtain ⟨q2, e2, h⟩ := sm_bd h
    refine sm_callV (q := 113) (d' := 1) [] [.int (M.1 80 12)] d_X12_exchange_110 rfl lk_X12_144 (hx sx_80) rfl rfl rfl (Nat.le_of_ble_eq_true rfl) (Nat.le_of_ble_eq_true rfl) (c_X12_replace hx F (M.1 80 12) M _ e2) (st9 := []) rfl ?_
    refine sm_iload_n (q := 114) d_X12_exchange_113 rfl rfl ?_
    obtain rfl := Option.some.inj h
    exact sm_iret d_X12_exchange_114 rfl rfl rfl rfl
  · replace h := sm_if c1 h
    refine sm_aload_n (q := 42) d_X12_exchange_41 rfl rfl ?_
    refine sm_getr (q := 45) d_X12_exchange_42 rfl fl_X12_36 (hx sx_80) rfl ?_
    refine sm_iload (q := 47) d_X12_exchange_45 rfl rfl ?_
    obtain ⟨g3, h⟩ := sm_gt h
    refine sm_iaload (q := 48) d_X12_exchange_47 rfl (hx sx_86) (sm_ib_of g3) ?_
    refine sm_istore (q := 50) (lt := [some (.ref 80), some (.int x1), some (.int x2), some (.int x3), some (.int x4), some (.int (M.1 86 x4.toNatClampNeg))]) d_X12_exchange_48 rfl (Nat.le_of_ble_eq_true rfl) rfl rfl ?_
    refine sm_aload_n (q := 51) d_X12_exchange_50 rfl rfl ?_
    refine sm_getr (q := 54) d_X12_exchange_51 rfl fl_X12_45 (hx sx_80) rfl ?_
    refine sm_iload (q := 56) d_X12_exchange_54 rfl rfl ?_
    refine sm_iload (q := 58) d_X12_exchange_56 rfl rfl ?_
    refine sm_iload_n (q := 59) d_X12_exchange_58 rfl rfl ?_
    refine sm_icmp_ne (q := 62) (t := 66) d_X12_exchange_59 rfl rfl (fun c4 => ?_) (fun c4 => ?_)
    · replace h := sm_if c4 h
      refine sm_iload (q := 68) d_X12_exchange_66 rfl rfl ?_
      refine sm_iload_n (q := 69) d_X12_exchange_68 rfl rfl ?_
      refine sm_icmp_ne (q := 72) (t := 76) d_X12_exchange_69 rfl rfl (fun c5 => ?_) (fun c5 => ?_)
      · replace h := sm_if c5 h
        refine sm_iload (q := 78) d_X12_exchange_76 rfl rfl ?_
        exact j_X12_exchange_78 hx F kb32 hkb32 x1 x2 x3 x4 (M.1 86 x4.toNatClampNeg) x4 (M.1 86 x4.toNatClampNeg) M _ h
      · replace h := sm_it c5 h
        refine sm_iload_n (q := 73) d_X12_exchange_72 rfl rfl ?_
        refine sm_goto (t := 78) d_X12_exchange_73 rfl ?_
        exact j_X12_exchange_78 hx F kb32 hkb32 x1 x2 x3 x4 (M.1 86 x4.toNatClampNeg) x4 x1 M _ h
    · replace h := sm_it c4 h
      refine sm_iload_n (q := 63) d_X12_exchange_62 rfl rfl ?_
      refine sm_goto (t := 78) d_X12_exchange_63 rfl ?_
      exact j_X12_exchange_78 hx F kb32 hkb32 x1 x2 x3 x4 (M.1 86 x4.toNatClampNeg) x4 x2 M _ h
def f_X12_exchange_32 (F : Nat) (n : Nat) : Int32 → Int32 → Int32 → Int32 → sm_M → Option (Int32 × sm_M) := match n with
 | 0 => fun _ _ _ _ _ => none
 | n + 1 => f_X12_exchange_32b F (f_X12_exchange_32 F n)
theorem j_X12_exchange_32 {sk : List sm_Sh} (hx : sm_ext skM sk) (F : Nat) : ∀ (n : Nat) (x1 : Int32) (x2 : Int32) (x3 : Int32) (x4 : Int32) (M : sm_M) (r : Int32 × sm_M), f_X12_exchange_32 F n x1 x2 x3 x4 M = some r → sm_J (md_X12_exchange, 2, sk, .inl (some (.int r.1)), r.2) 32 [some (.ref 80), some (.int x1), some (.int x2), some (.int x3), some (.int x4), none] [] M := by
  intro n
  induction n with
  | zero => intro x1 x2 x3 x4  M r h; exact nomatch (show (none : Option (Int32 × sm_M)) = some r from h)
  | succ n ih => exact j_X12_exchange_32b hx F (f_X12_exchange_32 F n) ih
def f_X12_exchange (F : Nat) (x1 : Int32) (x2 : Int32) (M : sm_M) : Option (Int32 × sm_M) := (f_X12_isSymbol F x1 (sm_mi M 80 0 (0 : Int32))).bind fun q1 => if q1 = 0 then (f_X12_exchange_21 F ((sm_mi M 80 0 (0 : Int32)))) else ((f_X12_isSymbol F x2 (sm_mi M 80 0 (0 : Int32))).bind fun q3 => if q3 = 0 then (f_X12_exchange_21 F ((sm_mi M 80 0 (0 : Int32)))) else (f_X12_exchange_32 F F x1 x2 (0 : Int32) (0 : Int32) ((sm_mi M 80 0 (0 : Int32)))))
set_option maxRecDepth 100000 in
set_option maxHeartbeats 4000000 in
theorem j_X12_exchange {sk : List sm_Sh} (hx : sm_ext skM sk) (F : Nat) : ∀ (x1 : Int32) (x2 : Int32) (M : sm_M) (r : Int32 × sm_M), f_X12_exchange F x1 x2 M = some r → sm_J (md_X12_exchange, 2, sk, .inl (some (.int r.1)), r.2) 0 [some (.ref 80), some (.int x1), some (.int x2), none, none, none] [] M := by
  intro x1 x2  M r h
  unfold f_X12_exchange at h
  refine sm_aload_n (q := 1) d_X12_exchange_0 rfl rfl ?_
  refine sm_iconst (q := 2) d_X12_exchange_1 rfl ci_0 ?_
  refine sm_puti (q := 5) d_X12_exchange_2 rfl fw_X12_1 (hx sx_80) rfl rfl rfl ?_
  refine sm_aload_n (q := 6) d_X12_exchange_5 rfl rfl ?_
  refine sm_iload_n (q := 7) d_X12_exchange_6 rfl rfl ?_
  obtain ⟨q1, e1, h⟩ := sm_bd h
  refine sm_callV (q := 10) (d' := 1) [] [.int x1] d_X12_exchange_7 rfl lk_X12_138 (hx sx_80) rfl rfl rfl (Nat.le_of_ble_eq_true rfl) (Nat.le_of_ble_eq_true rfl) (c_X12_isSymbol hx F x1 (sm_mi M 80 0 (0 : Int32)) _ e1) (st9 := [.int q1]) rfl ?_
  refine sm_if_eq (q := 13) (t := 21) d_X12_exchange_10 rfl rfl (fun c2 => ?_) (fun c2 => ?_)
  · replace h := sm_it c2 h
    refine sm_fg [1, 2] ?_
    exact j_X12_exchange_21 hx F ((sm_mi M 80 0 (0 : Int32))) _ h
  · replace h := sm_if c2 h
    refine sm_aload_n (q := 14) d_X12_exchange_13 rfl rfl ?_
    refine sm_iload_n (q := 15) d_X12_exchange_14 rfl rfl ?_
    obtain ⟨q3, e3, h⟩ := sm_bd h
    refine sm_callV (q := 18) (d' := 1) [] [.int x2] d_X12_exchange_15 rfl lk_X12_138 (hx sx_80) rfl rfl rfl (Nat.le_of_ble_eq_true rfl) (Nat.le_of_ble_eq_true rfl) (c_X12_isSymbol hx F x2 (sm_mi M 80 0 (0 : Int32)) _ e3) (st9 := [.int q3]) rfl ?_
    refine sm_if_ne (q := 21) (t := 27) d_X12_exchange_18 rfl rfl (fun c4 => ?_) (fun c4 => ?_)
    · replace h := sm_if c4 h
      refine sm_iconst (q := 28) d_X12_exchange_27 rfl ci_0 ?_
      refine sm_istore_n (q := 29) (lt := [some (.ref 80), some (.int x1), some (.int x2), some (.int (0 : Int32)), none, none]) d_X12_exchange_28 rfl (Nat.le_of_ble_eq_true rfl) rfl rfl ?_
      refine sm_iconst (q := 30) d_X12_exchange_29 rfl ci_0 ?_
      refine sm_istore (q := 32) (lt := [some (.ref 80), some (.int x1), some (.int x2), some (.int (0 : Int32)), some (.int (0 : Int32)), none]) d_X12_exchange_30 rfl (Nat.le_of_ble_eq_true rfl) rfl rfl ?_
      exact j_X12_exchange_32 hx F F x1 x2 (0 : Int32) (0 : Int32) ((sm_mi M 80 0 (0 : Int32))) _ h
    · replace h := sm_it c4 h
      refine sm_fg [1, 2] ?_
      exact j_X12_exchange_21 hx F ((sm_mi M 80 0 (0 : Int32))) _ h
theorem c_X12_exchange {sk : List sm_Sh} (hx : sm_ext skM sk) (F : Nat) (x1 : Int32) (x2 : Int32) (M : sm_M) (r : Int32 × sm_M) (h : f_X12_exchange F x1 x2 M = some r) : sm_Ct yX12_exchange md_X12_exchange 2 sk [.ref 80, .int x1, .int x2] M (.inl (some (.int r.1))) r.2 := sm_enter 3 pn_X12 rfl (Nat.le_of_ble_eq_true rfl) rfl (j_X12_exchange hx F x1 x2 M r h)
/-! UniversalCyclesModel.endShows(I)I -/
theorem d_X12_endShows_0 : decode cX12_endShows 0 = .ok (.iconst 0, 1) := by decide +kernel
theorem d_X12_endShows_1 : decode cX12_endShows 1 = .ok (.istore_n 2, 1) := by decide +kernel
theorem d_X12_endShows_2 : decode cX12_endShows 2 = .ok (.iload_n 2, 1) := by decide +kernel
theorem d_X12_endShows_3 : decode cX12_endShows 3 = .ok (.aload_n 0, 1) := by decide +kernel
theorem d_X12_endShows_4 : decode cX12_endShows 4 = .ok (.getfield 13, 3) := by decide +kernel
theorem d_X12_endShows_7 : decode cX12_endShows 7 = .ok (.if_icmp .ge 28, 3) := by decide +kernel
theorem d_X12_endShows_10 : decode cX12_endShows 10 = .ok (.aload_n 0, 1) := by decide +kernel
theorem d_X12_endShows_11 : decode cX12_endShows 11 = .ok (.getfield 55, 3) := by decide +kernel
theorem d_X12_endShows_14 : decode cX12_endShows 14 = .ok (.iload_n 2, 1) := by decide +kernel
theorem d_X12_endShows_15 : decode cX12_endShows 15 = .ok (.aload_n 0, 1) := by decide +kernel
theorem d_X12_endShows_16 : decode cX12_endShows 16 = .ok (.getfield 45, 3) := by decide +kernel
theorem d_X12_endShows_19 : decode cX12_endShows 19 = .ok (.iload_n 1, 1) := by decide +kernel
theorem d_X12_endShows_20 : decode cX12_endShows 20 = .ok (.aload_n 0, 1) := by decide +kernel
theorem d_X12_endShows_21 : decode cX12_endShows 21 = .ok (.getfield 13, 3) := by decide +kernel
theorem d_X12_endShows_24 : decode cX12_endShows 24 = .ok (.isub, 1) := by decide +kernel
theorem d_X12_endShows_25 : decode cX12_endShows 25 = .ok (.iload_n 2, 1) := by decide +kernel
theorem d_X12_endShows_26 : decode cX12_endShows 26 = .ok (.iadd, 1) := by decide +kernel
theorem d_X12_endShows_27 : decode cX12_endShows 27 = .ok (.iaload, 1) := by decide +kernel
theorem d_X12_endShows_28 : decode cX12_endShows 28 = .ok (.iastore, 1) := by decide +kernel
theorem d_X12_endShows_29 : decode cX12_endShows 29 = .ok (.iinc 2 1, 3) := by decide +kernel
theorem d_X12_endShows_32 : decode cX12_endShows 32 = .ok (.goto (-30), 3) := by decide +kernel
theorem d_X12_endShows_35 : decode cX12_endShows 35 = .ok (.aload_n 0, 1) := by decide +kernel
theorem d_X12_endShows_36 : decode cX12_endShows 36 = .ok (.invokevirtual 158, 3) := by decide +kernel
theorem d_X12_endShows_39 : decode cX12_endShows 39 = .ok (.ireturn, 1) := by decide +kernel
def f_X12_endShows_2b (F : Nat) (kb2 : Int32 → Int32 → sm_M → Option (Int32 × sm_M)) (x1 : Int32) (x2 : Int32) (M : sm_M) : Option (Int32 × sm_M) := if (M.1 80 2) ≤ x2 then ((f_X12_shown F M).bind fun q2 => some (q2, M)) else (sm_g (sm_ib ((x1 - (M.1 80 2)) + x2) 240) (sm_g (sm_ib x2 5) (kb2 x1 (x2 + 1) ((sm_mi M 92 x2.toNatClampNeg (M.1 89 ((x1 - (M.1 80 2)) + x2).toNatClampNeg))))))
set_option maxRecDepth 100000 in
set_option maxHeartbeats 4000000 in
theorem j_X12_endShows_2b {sk : List sm_Sh} (hx : sm_ext skM sk) (F : Nat) (kb2 : Int32 → Int32 → sm_M → Option (Int32 × sm_M)) (hkb2 : ∀ (x1 : Int32) (x2 : Int32) (M : sm_M) (r : Int32 × sm_M), kb2 x1 x2 M = some r → sm_J (md_X12_endShows, 2, sk, .inl (some (.int r.1)), r.2) 2 [some (.ref 80), some (.int x1), some (.int x2)] [] M) : ∀ (x1 : Int32) (x2 : Int32) (M : sm_M) (r : Int32 × sm_M), f_X12_endShows_2b F kb2 x1 x2 M = some r → sm_J (md_X12_endShows, 2, sk, .inl (some (.int r.1)), r.2) 2 [some (.ref 80), some (.int x1), some (.int x2)] [] M := by
  intro x1 x2  M r h
  unfold f_X12_endShows_2b at h
  refine sm_iload_n (q := 3) d_X12_endShows_2 rfl rfl ?_
  refine sm_aload_n (q := 4) d_X12_endShows_3 rfl rfl ?_
  refine sm_geti (q := 7) d_X12_endShows_4 rfl fl_X12_13 (hx sx_80) rfl ?_
  refine sm_icmp_ge (q := 10) (t := 35) d_X12_endShows_7 rfl rfl (fun c1 => ?_) (fun c1 => ?_)
  · replace h := sm_it c1 h
    refine sm_aload_n (q := 36) d_X12_endShows_35 rfl rfl ?_
    obtain ⟨q2, e2, h⟩ := sm_bd h
    refine sm_callV (q := 39) (d' := 1) [] [] d_X12_endShows_36 rfl lk_X12_158 (hx sx_80) rfl rfl rfl (Nat.le_of_ble_eq_true rfl) (Nat.le_of_ble_eq_true rfl) (c_X12_shown hx F M _ e2) (st9 := [.int q2]) rfl ?_
    obtain rfl := Option.some.inj h
    exact sm_iret d_X12_endShows_39 rfl rfl rfl rfl
  · replace h := sm_if c1 h
    refine sm_aload_n (q := 11) d_X12_endShows_10 rfl rfl ?_
    refine sm_getr (q := 14) d_X12_endShows_11 rfl fl_X12_55 (hx sx_80) rfl ?_
    refine sm_iload_n (q := 15) d_X12_endShows_14 rfl rfl ?_
    refine sm_aload_n (q := 16) d_X12_endShows_15 rfl rfl ?_
    refine sm_getr (q := 19) d_X12_endShows_16 rfl fl_X12_45 (hx sx_80) rfl ?_
    refine sm_iload_n (q := 20) d_X12_endShows_19 rfl rfl ?_
    refine sm_aload_n (q := 21) d_X12_endShows_20 rfl rfl ?_
    refine sm_geti (q := 24) d_X12_endShows_21 rfl fl_X12_13 (hx sx_80) rfl ?_
    refine sm_isub (q := 25) d_X12_endShows_24 rfl ?_
    refine sm_iload_n (q := 26) d_X12_endShows_25 rfl rfl ?_
    refine sm_iadd (q := 27) d_X12_endShows_26 rfl ?_
    obtain ⟨g3, h⟩ := sm_gt h
    refine sm_iaload (q := 28) d_X12_endShows_27 rfl (hx sx_89) (sm_ib_of g3) ?_
    obtain ⟨g4, h⟩ := sm_gt h
    refine sm_iastore (q := 29) d_X12_endShows_28 rfl (hx sx_92) (sm_ib_of g4) ?_
    refine sm_iinc (q := 32) (v := (x2 + 1)) (lt := [some (.ref 80), some (.int x1), some (.int (x2 + 1))]) d_X12_endShows_29 rfl rfl (ii_1 _) (Nat.le_of_ble_eq_true rfl) rfl rfl ?_
    refine sm_goto (t := 2) d_X12_endShows_32 rfl ?_
    exact hkb2 x1 (x2 + 1) ((sm_mi M 92 x2.toNatClampNeg (M.1 89 ((x1 - (M.1 80 2)) + x2).toNatClampNeg))) _ h
def f_X12_endShows_2 (F : Nat) (n : Nat) : Int32 → Int32 → sm_M → Option (Int32 × sm_M) := match n with
 | 0 => fun _ _ _ => none
 | n + 1 => f_X12_endShows_2b F (f_X12_endShows_2 F n)
theorem j_X12_endShows_2 {sk : List sm_Sh} (hx : sm_ext skM sk) (F : Nat) : ∀ (n : Nat) (x1 : Int32) (x2 : Int32) (M : sm_M) (r : Int32 × sm_M), f_X12_endShows_2 F n x1 x2 M = some r → sm_J (md_X12_endShows, 2, sk, .inl (some (.int r.1)), r.2) 2 [some (.ref 80), some (.int x1), some (.int x2)] [] M := by
  intro n
  induction n with
  | zero => intro x1 x2  M r h; exact nomatch (show (none : Option (Int32 × sm_M)) = some r from h)
  | succ n ih => exact j_X12_endShows_2b hx F (f_X12_endShows_2 F n) ih
def f_X12_endShows (F : Nat) (x1 : Int32) (M : sm_M) : Option (Int32 × sm_M) := f_X12_endShows_2 F F x1 (0 : Int32) M
set_option maxRecDepth 100000 in
set_option maxHeartbeats 4000000 in
theorem j_X12_endShows {sk : List sm_Sh} (hx : sm_ext skM sk) (F : Nat) : ∀ (x1 : Int32) (M : sm_M) (r : Int32 × sm_M), f_X12_endShows F x1 M = some r → sm_J (md_X12_endShows, 2, sk, .inl (some (.int r.1)), r.2) 0 [some (.ref 80), some (.int x1), none] [] M := by
  intro x1  M r h
  unfold f_X12_endShows at h
  refine sm_iconst (q := 1) d_X12_endShows_0 rfl ci_0 ?_
  refine sm_istore_n (q := 2) (lt := [some (.ref 80), some (.int x1), some (.int (0 : Int32))]) d_X12_endShows_1 rfl (Nat.le_of_ble_eq_true rfl) rfl rfl ?_
  exact j_X12_endShows_2 hx F F x1 (0 : Int32) M _ h
theorem c_X12_endShows {sk : List sm_Sh} (hx : sm_ext skM sk) (F : Nat) (x1 : Int32) (M : sm_M) (r : Int32 × sm_M) (h : f_X12_endShows F x1 M = some r) : sm_Ct yX12_endShows md_X12_endShows 2 sk [.ref 80, .int x1] M (.inl (some (.int r.1))) r.2 := sm_enter 1 pn_X12 rfl (Nat.le_of_ble_eq_true rfl) rfl (j_X12_endShows hx F x1 M r h)
/-! UniversalCyclesModel.see(I)V -/
theorem d_X12_see_0 : decode cX12_see 0 = .ok (.iload_n 1, 1) := by decide +kernel
theorem d_X12_see_1 : decode cX12_see 1 = .ok (.aload_n 0, 1) := by decide +kernel
theorem d_X12_see_2 : decode cX12_see 2 = .ok (.getfield 13, 3) := by decide +kernel
theorem d_X12_see_5 : decode cX12_see 5 = .ok (.if_icmp .lt 23, 3) := by decide +kernel
theorem d_X12_see_8 : decode cX12_see 8 = .ok (.aload_n 0, 1) := by decide +kernel
theorem d_X12_see_9 : decode cX12_see 9 = .ok (.iload_n 1, 1) := by decide +kernel
theorem d_X12_see_10 : decode cX12_see 10 = .ok (.invokevirtual 193, 3) := by decide +kernel
theorem d_X12_see_13 : decode cX12_see 13 = .ok (.iconst (-1), 1) := by decide +kernel
theorem d_X12_see_14 : decode cX12_see 14 = .ok (.if_icmp .eq 14, 3) := by decide +kernel
theorem d_X12_see_17 : decode cX12_see 17 = .ok (.aload_n 0, 1) := by decide +kernel
theorem d_X12_see_18 : decode cX12_see 18 = .ok (.getfield 58, 3) := by decide +kernel
theorem d_X12_see_21 : decode cX12_see 21 = .ok (.aload_n 0, 1) := by decide +kernel
theorem d_X12_see_22 : decode cX12_see 22 = .ok (.iload_n 1, 1) := by decide +kernel
theorem d_X12_see_23 : decode cX12_see 23 = .ok (.invokevirtual 193, 3) := by decide +kernel
theorem d_X12_see_26 : decode cX12_see 26 = .ok (.iconst 1, 1) := by decide +kernel
theorem d_X12_see_27 : decode cX12_see 27 = .ok (.bastore, 1) := by decide +kernel
theorem d_X12_see_28 : decode cX12_see 28 = .ok (.return_, 1) := by decide +kernel
def f_X12_see_28 (F : Nat) (M : sm_M) : Option (sm_M) := some M
set_option maxRecDepth 100000 in
set_option maxHeartbeats 4000000 in
theorem j_X12_see_28 {sk : List sm_Sh} (hx : sm_ext skM sk) (F : Nat) : ∀ (M : sm_M) (r : sm_M), f_X12_see_28 F M = some r → sm_J (md_X12_see, 3, sk, .inl none, r) 28 [none, none] [] M := by
  intro   M r h
  unfold f_X12_see_28 at h
  obtain rfl := Option.some.inj h
  exact sm_vret d_X12_see_28 rfl rfl rfl
def f_X12_see (F : Nat) (x1 : Int32) (M : sm_M) : Option (sm_M) := if x1 < (M.1 80 2) then (f_X12_see_28 F M) else ((f_X12_endShows F x1 M).bind fun q2 => if q2.1 = (-1 : Int32) then (f_X12_see_28 F q2.2) else ((f_X12_endShows F x1 q2.2).bind fun q4 => sm_g (sm_ib q4.1 200) (f_X12_see_28 F ((sm_mi q4.2 93 q4.1.toNatClampNeg (vp_nar .boolean (1 : Int32)))))))
set_option maxRecDepth 100000 in
set_option maxHeartbeats 4000000 in
theorem j_X12_see {sk : List sm_Sh} (hx : sm_ext skM sk) (F : Nat) : ∀ (x1 : Int32) (M : sm_M) (r : sm_M), f_X12_see F x1 M = some r → sm_J (md_X12_see, 3, sk, .inl none, r) 0 [some (.ref 80), some (.int x1)] [] M := by
  intro x1  M r h
  unfold f_X12_see at h
  refine sm_iload_n (q := 1) d_X12_see_0 rfl rfl ?_
  refine sm_aload_n (q := 2) d_X12_see_1 rfl rfl ?_
  refine sm_geti (q := 5) d_X12_see_2 rfl fl_X12_13 (hx sx_80) rfl ?_
  refine sm_icmp_lt (q := 8) (t := 28) d_X12_see_5 rfl rfl (fun c1 => ?_) (fun c1 => ?_)
  · replace h := sm_it c1 h
    refine sm_fg [0, 1] ?_
    exact j_X12_see_28 hx F M _ h
  · replace h := sm_if c1 h
    refine sm_aload_n (q := 9) d_X12_see_8 rfl rfl ?_
    refine sm_iload_n (q := 10) d_X12_see_9 rfl rfl ?_
    obtain ⟨q2, e2, h⟩ := sm_bd h
    refine sm_callV (q := 13) (d' := 2) [] [.int x1] d_X12_see_10 rfl lk_X12_193 (hx sx_80) rfl rfl rfl (Nat.le_of_ble_eq_true rfl) (Nat.le_of_ble_eq_true rfl) (c_X12_endShows hx F x1 M _ e2) (st9 := [.int q2.1]) rfl ?_
    refine sm_iconst (q := 14) d_X12_see_13 rfl ci_m1 ?_
    refine sm_icmp_eq (q := 17) (t := 28) d_X12_see_14 rfl rfl (fun c3 => ?_) (fun c3 => ?_)
    · replace h := sm_it c3 h
      refine sm_fg [0, 1] ?_
      exact j_X12_see_28 hx F q2.2 _ h
    · replace h := sm_if c3 h
      refine sm_aload_n (q := 18) d_X12_see_17 rfl rfl ?_
      refine sm_getr (q := 21) d_X12_see_18 rfl fl_X12_58 (hx sx_80) rfl ?_
      refine sm_aload_n (q := 22) d_X12_see_21 rfl rfl ?_
      refine sm_iload_n (q := 23) d_X12_see_22 rfl rfl ?_
      obtain ⟨q4, e4, h⟩ := sm_bd h
      refine sm_callV (q := 26) (d' := 2) [.ref 93] [.int x1] d_X12_see_23 rfl lk_X12_193 (hx sx_80) rfl rfl rfl (Nat.le_of_ble_eq_true rfl) (Nat.le_of_ble_eq_true rfl) (c_X12_endShows hx F x1 q2.2 _ e4) (st9 := [.int q4.1, .ref 93]) rfl ?_
      refine sm_iconst (q := 27) d_X12_see_26 rfl ci_1 ?_
      obtain ⟨g5, h⟩ := sm_gt h
      refine sm_bastore (q := 28) d_X12_see_27 rfl (hx sx_93) (sm_ib_of g5) ?_
      refine sm_fg [0, 1] ?_
      exact j_X12_see_28 hx F ((sm_mi q4.2 93 q4.1.toNatClampNeg (vp_nar .boolean (1 : Int32)))) _ h
theorem c_X12_see {sk : List sm_Sh} (hx : sm_ext skM sk) (F : Nat) (x1 : Int32) (M : sm_M) (r : sm_M) (h : f_X12_see F x1 M = some r) : sm_Ct yX12_see md_X12_see 3 sk [.ref 80, .int x1] M (.inl none) r := sm_enter 0 pn_X12 rfl (Nat.le_of_ble_eq_true rfl) rfl (j_X12_see hx F x1 M r h)
/-! UniversalCyclesModel.greatest(I)I -/
theorem d_X12_greatest_0 : decode cX12_greatest 0 = .ok (.aload_n 0, 1) := by decide +kernel
theorem d_X12_greatest_1 : decode cX12_greatest 1 = .ok (.getfield 16, 3) := by decide +kernel
theorem d_X12_greatest_4 : decode cX12_greatest 4 = .ok (.iconst 1, 1) := by decide +kernel
theorem d_X12_greatest_5 : decode cX12_greatest 5 = .ok (.isub, 1) := by decide +kernel
theorem d_X12_greatest_6 : decode cX12_greatest 6 = .ok (.istore_n 2, 1) := by decide +kernel
theorem d_X12_greatest_7 : decode cX12_greatest 7 = .ok (.iload_n 2, 1) := by decide +kernel
theorem d_X12_greatest_8 : decode cX12_greatest 8 = .ok (.ifCond .lt 40, 3) := by decide +kernel
theorem d_X12_greatest_11 : decode cX12_greatest 11 = .ok (.aload_n 0, 1) := by decide +kernel
theorem d_X12_greatest_12 : decode cX12_greatest 12 = .ok (.getfield 45, 3) := by decide +kernel
theorem d_X12_greatest_15 : decode cX12_greatest 15 = .ok (.iload_n 1, 1) := by decide +kernel
theorem d_X12_greatest_16 : decode cX12_greatest 16 = .ok (.iload_n 2, 1) := by decide +kernel
theorem d_X12_greatest_17 : decode cX12_greatest 17 = .ok (.iastore, 1) := by decide +kernel
theorem d_X12_greatest_18 : decode cX12_greatest 18 = .ok (.aload_n 0, 1) := by decide +kernel
theorem d_X12_greatest_19 : decode cX12_greatest 19 = .ok (.iload_n 1, 1) := by decide +kernel
theorem d_X12_greatest_20 : decode cX12_greatest 20 = .ok (.iconst 1, 1) := by decide +kernel
theorem d_X12_greatest_21 : decode cX12_greatest 21 = .ok (.iadd, 1) := by decide +kernel
theorem d_X12_greatest_22 : decode cX12_greatest 22 = .ok (.invokevirtual 193, 3) := by decide +kernel
theorem d_X12_greatest_25 : decode cX12_greatest 25 = .ok (.istore_n 3, 1) := by decide +kernel
theorem d_X12_greatest_26 : decode cX12_greatest 26 = .ok (.iload_n 3, 1) := by decide +kernel
theorem d_X12_greatest_27 : decode cX12_greatest 27 = .ok (.iconst (-1), 1) := by decide +kernel
theorem d_X12_greatest_28 : decode cX12_greatest 28 = .ok (.if_icmp .eq 14, 3) := by decide +kernel
theorem d_X12_greatest_31 : decode cX12_greatest 31 = .ok (.aload_n 0, 1) := by decide +kernel
theorem d_X12_greatest_32 : decode cX12_greatest 32 = .ok (.getfield 58, 3) := by decide +kernel
theorem d_X12_greatest_35 : decode cX12_greatest 35 = .ok (.iload_n 3, 1) := by decide +kernel
theorem d_X12_greatest_36 : decode cX12_greatest 36 = .ok (.baload, 1) := by decide +kernel
theorem d_X12_greatest_37 : decode cX12_greatest 37 = .ok (.ifCond .ne 5, 3) := by decide +kernel
theorem d_X12_greatest_40 : decode cX12_greatest 40 = .ok (.iload_n 2, 1) := by decide +kernel
theorem d_X12_greatest_41 : decode cX12_greatest 41 = .ok (.ireturn, 1) := by decide +kernel
theorem d_X12_greatest_42 : decode cX12_greatest 42 = .ok (.iinc 2 (-1), 3) := by decide +kernel
theorem d_X12_greatest_45 : decode cX12_greatest 45 = .ok (.goto (-38), 3) := by decide +kernel
theorem d_X12_greatest_48 : decode cX12_greatest 48 = .ok (.iconst (-1), 1) := by decide +kernel
theorem d_X12_greatest_49 : decode cX12_greatest 49 = .ok (.ireturn, 1) := by decide +kernel
def f_X12_greatest_42 (F : Nat) (kb7 : Int32 → Int32 → sm_M → Option (Int32 × sm_M)) (x1 : Int32) (x2 : Int32) (M : sm_M) : Option (Int32 × sm_M) := kb7 x1 (x2 + (-1)) M
set_option maxRecDepth 100000 in
set_option maxHeartbeats 4000000 in
theorem j_X12_greatest_42 {sk : List sm_Sh} (hx : sm_ext skM sk) (F : Nat) (kb7 : Int32 → Int32 → sm_M → Option (Int32 × sm_M)) (hkb7 : ∀ (x1 : Int32) (x2 : Int32) (M : sm_M) (r : Int32 × sm_M), kb7 x1 x2 M = some r → sm_J (md_X12_greatest, 3, sk, .inl (some (.int r.1)), r.2) 7 [some (.ref 80), some (.int x1), some (.int x2), none] [] M) : ∀ (x1 : Int32) (x2 : Int32) (M : sm_M) (r : Int32 × sm_M), f_X12_greatest_42 F kb7 x1 x2 M = some r → sm_J (md_X12_greatest, 3, sk, .inl (some (.int r.1)), r.2) 42 [some (.ref 80), some (.int x1), some (.int x2), none] [] M := by
  intro x1 x2  M r h
  unfold f_X12_greatest_42 at h
  refine sm_iinc (q := 45) (v := (x2 + (-1))) (lt := [some (.ref 80), some (.int x1), some (.int (x2 + (-1))), none]) d_X12_greatest_42 rfl rfl (ii_m1 _) (Nat.le_of_ble_eq_true rfl) rfl rfl ?_
  refine sm_goto (t := 7) d_X12_greatest_45 rfl ?_
  exact hkb7 x1 (x2 + (-1)) M _ h
def f_X12_greatest_7b (F : Nat) (kb7 : Int32 → Int32 → sm_M → Option (Int32 × sm_M)) (x1 : Int32) (x2 : Int32) (M : sm_M) : Option (Int32 × sm_M) := if x2 < 0 then (some ((-1 : Int32), M)) else (sm_g (sm_ib x1 240) ((f_X12_endShows F (x1 + (1 : Int32)) (sm_mi M 89 x1.toNatClampNeg x2)).bind fun q3 => if q3.1 = (-1 : Int32) then (f_X12_greatest_42 F kb7 x1 x2 q3.2) else (sm_g (sm_ib q3.1 200) (if (q3.2.1 93 q3.1.toNatClampNeg) = 0 then (some (x2, q3.2)) else (f_X12_greatest_42 F kb7 x1 x2 q3.2)))))
set_option maxRecDepth 100000 in
set_option maxHeartbeats 4000000 in
theorem j_X12_greatest_7b {sk : List sm_Sh} (hx : sm_ext skM sk) (F : Nat) (kb7 : Int32 → Int32 → sm_M → Option (Int32 × sm_M)) (hkb7 : ∀ (x1 : Int32) (x2 : Int32) (M : sm_M) (r : Int32 × sm_M), kb7 x1 x2 M = some r → sm_J (md_X12_greatest, 3, sk, .inl (some (.int r.1)), r.2) 7 [some (.ref 80), some (.int x1), some (.int x2), none] [] M) : ∀ (x1 : Int32) (x2 : Int32) (M : sm_M) (r : Int32 × sm_M), f_X12_greatest_7b F kb7 x1 x2 M = some r → sm_J (md_X12_greatest, 3, sk, .inl (some (.int r.1)), r.2) 7 [some (.ref 80), some (.int x1), some (.int x2), none] [] M := by
  intro x1 x2  M r h
  unfold f_X12_greatest_7b at h
  refine sm_iload_n (q := 8) d_X12_greatest_7 rfl rfl ?_
  refine sm_if_lt (q := 11) (t := 48) d_X12_greatest_8 rfl rfl (fun c1 => ?_) (fun c1 => ?_)
  · replace h := sm_it c1 h
    refine sm_iconst (q := 49) d_X12_greatest_48 rfl ci_m1 ?_
    obtain rfl := Option.some.inj h
    exact sm_iret d_X12_greatest_49 rfl rfl rfl rfl
  · replace h := sm_if c1 h
    refine sm_aload_n (q := 12) d_X12_greatest_11 rfl rfl ?_
    refine sm_getr (q := 15) d_X12_greatest_12 rfl fl_X12_45 (hx sx_80) rfl ?_
    refine sm_iload_n (q := 16) d_X12_greatest_15 rfl rfl ?_
    refine sm_iload_n (q := 17) d_X12_greatest_16 rfl rfl ?_
    obtain ⟨g2, h⟩ := sm_gt h
    refine sm_iastore (q := 18) d_X12_greatest_17 rfl (hx sx_89) (sm_ib_of g2) ?_
    refine sm_aload_n (q := 19) d_X12_greatest_18 rfl rfl ?_
    refine sm_iload_n (q := 20) d_X12_greatest_19 rfl rfl ?_
    refine sm_iconst (q := 21) d_X12_greatest_20 rfl ci_1 ?_
    refine sm_iadd (q := 22) d_X12_greatest_21 rfl ?_
    obtain ⟨q3, e3, h⟩ := sm_bd h
    refine sm_callV (q := 25) (d' := 2) [] [.int (x1 + (1 : Int32))] d_X12_greatest_22 rfl lk_X12_193 (hx sx_80) rfl rfl rfl (Nat.le_of_ble_eq_true rfl) (Nat.le_of_ble_eq_true rfl) (c_X12_endShows hx F (x1 + (1 : Int32)) (sm_mi M 89 x1.toNatClampNeg x2) _ e3) (st9 := [.int q3.1]) rfl ?_
    refine sm_istore_n (q := 26) (lt := [some (.ref 80), some (.int x1), some (.int x2), some (.int q3.1)]) d_X12_greatest_25 rfl (Nat.le_of_ble_eq_true rfl) rfl rfl ?_
    refine sm_iload_n (q := 27) d_X12_greatest_26 rfl rfl ?_
    refine sm_iconst (q := 28) d_X12_greatest_27 rfl ci_m1 ?_
    refine sm_icmp_eq (q := 31) (t := 42) d_X12_greatest_28 rfl rfl (fun c4 => ?_) (fun c4 => ?_)
    · replace h := sm_it c4 h
      refine sm_fg [3] ?_
      exact j_X12_greatest_42 hx F kb7 hkb7 x1 x2 q3.2 _ h
    · replace h := sm_if c4 h
      refine sm_aload_n (q := 32) d_X12_greatest_31 rfl rfl ?_
      refine sm_getr (q := 35) d_X12_greatest_32 rfl fl_X12_58 (hx sx_80) rfl ?_
      refine sm_iload_n (q := 36) d_X12_greatest_35 rfl rfl ?_
      obtain ⟨g5, h⟩ := sm_gt h
      refine sm_baload (q := 37) d_X12_greatest_36 rfl (hx sx_93) (sm_ib_of g5) ?_
      refine sm_if_ne (q := 40) (t := 42) d_X12_greatest_37 rfl rfl (fun c6 => ?_) (fun c6 => ?_)
      · replace h := sm_if c6 h
        refine sm_fg [3] ?_
        exact j_X12_greatest_42 hx F kb7 hkb7 x1 x2 q3.2 _ h
      · replace h := sm_it c6 h
        refine sm_iload_n (q := 41) d_X12_greatest_40 rfl rfl ?_
        obtain rfl := Option.some.inj h
        exact sm_iret d_X12_greatest_41 rfl rfl rfl rfl
def f_X12_greatest_7 (F : Nat) (n : Nat) : Int32 → Int32 → sm_M → Option (Int32 × sm_M) := match n with
 | 0 => fun _ _ _ => none
 | n + 1 => f_X12_greatest_7b F (f_X12_greatest_7 F n)
theorem j_X12_greatest_7 {sk : List sm_Sh} (hx : sm_ext skM sk) (F : Nat) : ∀ (n : Nat) (x1 : Int32) (x2 : Int32) (M : sm_M) (r : Int32 × sm_M), f_X12_greatest_7 F n x1 x2 M = some r → sm_J (md_X12_greatest, 3, sk, .inl (some (.int r.1)), r.2) 7 [some (.ref 80), some (.int x1), some (.int x2), none] [] M := by
  intro n
  induction n with
  | zero => intro x1 x2  M r h; exact nomatch (show (none : Option (Int32 × sm_M)) = some r from h)
  | succ n ih => exact j_X12_greatest_7b hx F (f_X12_greatest_7 F n) ih
def f_X12_greatest (F : Nat) (x1 : Int32) (M : sm_M) : Option (Int32 × sm_M) := f_X12_greatest_7 F F x1 ((M.1 80 3) - (1 : Int32)) M
set_option maxRecDepth 100000 in
set_option maxHeartbeats 4000000 in
theorem j_X12_greatest {sk : List sm_Sh} (hx : sm_ext skM sk) (F : Nat) : ∀ (x1 : Int32) (M : sm_M) (r : Int32 × sm_M), f_X12_greatest F x1 M = some r → sm_J (md_X12_greatest, 3, sk, .inl (some (.int r.1)), r.2) 0 [some (.ref 80), some (.int x1), none, none] [] M := by
  intro x1  M r h
  unfold f_X12_greatest at h
  refine sm_aload_n (q := 1) d_X12_greatest_0 rfl rfl ?_
  refine sm_geti (q := 4) d_X12_greatest_1 rfl fl_X12_16 (hx sx_80) rfl ?_
  refine sm_iconst (q := 5) d_X12_greatest_4 rfl ci_1 ?_
  refine sm_isub (q := 6) d_X12_greatest_5 rfl ?_
  refine sm_istore_n (q := 7) (lt := [some (.ref 80), some (.int x1), some (.int ((M.1 80 3) - (1 : Int32))), none]) d_X12_greatest_6 rfl (Nat.le_of_ble_eq_true rfl) rfl rfl ?_
  exact j_X12_greatest_7 hx F F x1 ((M.1 80 3) - (1 : Int32)) M _ h
theorem c_X12_greatest {sk : List sm_Sh} (hx : sm_ext skM sk) (F : Nat) (x1 : Int32) (M : sm_M) (r : Int32 × sm_M) (h : f_X12_greatest F x1 M = some r) : sm_Ct yX12_greatest md_X12_greatest 3 sk [.ref 80, .int x1] M (.inl (some (.int r.1))) r.2 := sm_enter 2 pn_X12 rfl (Nat.le_of_ble_eq_true rfl) rfl (j_X12_greatest hx F x1 M r h)
/-! UniversalCyclesModel.extendGreedily()I -/
theorem d_X12_extendGreedily_0 : decode cX12_extendGreedily 0 = .ok (.aload_n 0, 1) := by decide +kernel
theorem d_X12_extendGreedily_1 : decode cX12_extendGreedily 1 = .ok (.iconst 0, 1) := by decide +kernel
theorem d_X12_extendGreedily_2 : decode cX12_extendGreedily 2 = .ok (.putfield 1, 3) := by decide +kernel
theorem d_X12_extendGreedily_5 : decode cX12_extendGreedily 5 = .ok (.aload_n 0, 1) := by decide +kernel
theorem d_X12_extendGreedily_6 : decode cX12_extendGreedily 6 = .ok (.getfield 125, 3) := by decide +kernel
theorem d_X12_extendGreedily_9 : decode cX12_extendGreedily 9 = .ok (.istore_n 1, 1) := by decide +kernel
theorem d_X12_extendGreedily_10 : decode cX12_extendGreedily 10 = .ok (.iconst 0, 1) := by decide +kernel
theorem d_X12_extendGreedily_11 : decode cX12_extendGreedily 11 = .ok (.istore_n 2, 1) := by decide +kernel
theorem d_X12_extendGreedily_12 : decode cX12_extendGreedily 12 = .ok (.iload_n 2, 1) := by decide +kernel
theorem d_X12_extendGreedily_13 : decode cX12_extendGreedily 13 = .ok (.sipush 200, 3) := by decide +kernel
theorem d_X12_extendGreedily_16 : decode cX12_extendGreedily 16 = .ok (.if_icmp .ge 16, 3) := by decide +kernel
theorem d_X12_extendGreedily_19 : decode cX12_extendGreedily 19 = .ok (.aload_n 0, 1) := by decide +kernel
theorem d_X12_extendGreedily_20 : decode cX12_extendGreedily 20 = .ok (.getfield 58, 3) := by decide +kernel
theorem d_X12_extendGreedily_23 : decode cX12_extendGreedily 23 = .ok (.iload_n 2, 1) := by decide +kernel
theorem d_X12_extendGreedily_24 : decode cX12_extendGreedily 24 = .ok (.iconst 0, 1) := by decide +kernel
theorem d_X12_extendGreedily_25 : decode cX12_extendGreedily 25 = .ok (.bastore, 1) := by decide +kernel
theorem d_X12_extendGreedily_26 : decode cX12_extendGreedily 26 = .ok (.iinc 2 1, 3) := by decide +kernel
theorem d_X12_extendGreedily_29 : decode cX12_extendGreedily 29 = .ok (.goto (-17), 3) := by decide +kernel
theorem d_X12_extendGreedily_32 : decode cX12_extendGreedily 32 = .ok (.iconst 0, 1) := by decide +kernel
theorem d_X12_extendGreedily_33 : decode cX12_extendGreedily 33 = .ok (.istore_n 2, 1) := by decide +kernel
theorem d_X12_extendGreedily_34 : decode cX12_extendGreedily 34 = .ok (.iload_n 2, 1) := by decide +kernel
theorem d_X12_extendGreedily_35 : decode cX12_extendGreedily 35 = .ok (.aload_n 0, 1) := by decide +kernel
theorem d_X12_extendGreedily_36 : decode cX12_extendGreedily 36 = .ok (.getfield 125, 3) := by decide +kernel
theorem d_X12_extendGreedily_39 : decode cX12_extendGreedily 39 = .ok (.if_icmp .ge 28, 3) := by decide +kernel
theorem d_X12_extendGreedily_42 : decode cX12_extendGreedily 42 = .ok (.aload_n 0, 1) := by decide +kernel
theorem d_X12_extendGreedily_43 : decode cX12_extendGreedily 43 = .ok (.getfield 45, 3) := by decide +kernel
theorem d_X12_extendGreedily_46 : decode cX12_extendGreedily 46 = .ok (.iload_n 2, 1) := by decide +kernel
theorem d_X12_extendGreedily_47 : decode cX12_extendGreedily 47 = .ok (.aload_n 0, 1) := by decide +kernel
theorem d_X12_extendGreedily_48 : decode cX12_extendGreedily 48 = .ok (.getfield 36, 3) := by decide +kernel
theorem d_X12_extendGreedily_51 : decode cX12_extendGreedily 51 = .ok (.iload_n 2, 1) := by decide +kernel
theorem d_X12_extendGreedily_52 : decode cX12_extendGreedily 52 = .ok (.iaload, 1) := by decide +kernel
theorem d_X12_extendGreedily_53 : decode cX12_extendGreedily 53 = .ok (.iastore, 1) := by decide +kernel
theorem d_X12_extendGreedily_54 : decode cX12_extendGreedily 54 = .ok (.aload_n 0, 1) := by decide +kernel
theorem d_X12_extendGreedily_55 : decode cX12_extendGreedily 55 = .ok (.iload_n 2, 1) := by decide +kernel
theorem d_X12_extendGreedily_56 : decode cX12_extendGreedily 56 = .ok (.iconst 1, 1) := by decide +kernel
theorem d_X12_extendGreedily_57 : decode cX12_extendGreedily 57 = .ok (.iadd, 1) := by decide +kernel
theorem d_X12_extendGreedily_58 : decode cX12_extendGreedily 58 = .ok (.invokevirtual 187, 3) := by decide +kernel
theorem d_X12_extendGreedily_61 : decode cX12_extendGreedily 61 = .ok (.iinc 2 1, 3) := by decide +kernel
theorem d_X12_extendGreedily_64 : decode cX12_extendGreedily 64 = .ok (.goto (-30), 3) := by decide +kernel
theorem d_X12_extendGreedily_67 : decode cX12_extendGreedily 67 = .ok (.iconst 1, 1) := by decide +kernel
theorem d_X12_extendGreedily_68 : decode cX12_extendGreedily 68 = .ok (.istore_n 2, 1) := by decide +kernel
theorem d_X12_extendGreedily_69 : decode cX12_extendGreedily 69 = .ok (.iload_n 2, 1) := by decide +kernel
theorem d_X12_extendGreedily_70 : decode cX12_extendGreedily 70 = .ok (.ifCond .eq 63, 3) := by decide +kernel
theorem d_X12_extendGreedily_73 : decode cX12_extendGreedily 73 = .ok (.iload_n 1, 1) := by decide +kernel
theorem d_X12_extendGreedily_74 : decode cX12_extendGreedily 74 = .ok (.sipush 240, 3) := by decide +kernel
theorem d_X12_extendGreedily_77 : decode cX12_extendGreedily 77 = .ok (.if_icmp .ge 56, 3) := by decide +kernel
theorem d_X12_extendGreedily_80 : decode cX12_extendGreedily 80 = .ok (.iload_n 1, 1) := by decide +kernel
theorem d_X12_extendGreedily_81 : decode cX12_extendGreedily 81 = .ok (.iconst 1, 1) := by decide +kernel
theorem d_X12_extendGreedily_82 : decode cX12_extendGreedily 82 = .ok (.iadd, 1) := by decide +kernel
theorem d_X12_extendGreedily_83 : decode cX12_extendGreedily 83 = .ok (.aload_n 0, 1) := by decide +kernel
theorem d_X12_extendGreedily_84 : decode cX12_extendGreedily 84 = .ok (.getfield 13, 3) := by decide +kernel
theorem d_X12_extendGreedily_87 : decode cX12_extendGreedily 87 = .ok (.if_icmp .ge 7, 3) := by decide +kernel
theorem d_X12_extendGreedily_90 : decode cX12_extendGreedily 90 = .ok (.iconst 0, 1) := by decide +kernel
theorem d_X12_extendGreedily_91 : decode cX12_extendGreedily 91 = .ok (.goto 8, 3) := by decide +kernel
theorem d_X12_extendGreedily_94 : decode cX12_extendGreedily 94 = .ok (.aload_n 0, 1) := by decide +kernel
theorem d_X12_extendGreedily_95 : decode cX12_extendGreedily 95 = .ok (.iload_n 1, 1) := by decide +kernel
theorem d_X12_extendGreedily_96 : decode cX12_extendGreedily 96 = .ok (.invokevirtual 190, 3) := by decide +kernel
theorem d_X12_extendGreedily_99 : decode cX12_extendGreedily 99 = .ok (.istore_n 3, 1) := by decide +kernel
theorem d_X12_extendGreedily_100 : decode cX12_extendGreedily 100 = .ok (.iload_n 3, 1) := by decide +kernel
theorem d_X12_extendGreedily_101 : decode cX12_extendGreedily 101 = .ok (.iconst (-1), 1) := by decide +kernel
theorem d_X12_extendGreedily_102 : decode cX12_extendGreedily 102 = .ok (.if_icmp .eq 7, 3) := by decide +kernel
theorem d_X12_extendGreedily_105 : decode cX12_extendGreedily 105 = .ok (.iconst 1, 1) := by decide +kernel
theorem d_X12_extendGreedily_106 : decode cX12_extendGreedily 106 = .ok (.goto 4, 3) := by decide +kernel
theorem d_X12_extendGreedily_109 : decode cX12_extendGreedily 109 = .ok (.iconst 0, 1) := by decide +kernel
theorem d_X12_extendGreedily_110 : decode cX12_extendGreedily 110 = .ok (.istore_n 2, 1) := by decide +kernel
theorem d_X12_extendGreedily_111 : decode cX12_extendGreedily 111 = .ok (.iload_n 2, 1) := by decide +kernel
theorem d_X12_extendGreedily_112 : decode cX12_extendGreedily 112 = .ok (.ifCond .eq 18, 3) := by decide +kernel
theorem d_X12_extendGreedily_115 : decode cX12_extendGreedily 115 = .ok (.aload_n 0, 1) := by decide +kernel
theorem d_X12_extendGreedily_116 : decode cX12_extendGreedily 116 = .ok (.getfield 45, 3) := by decide +kernel
theorem d_X12_extendGreedily_119 : decode cX12_extendGreedily 119 = .ok (.iload_n 1, 1) := by decide +kernel
theorem d_X12_extendGreedily_120 : decode cX12_extendGreedily 120 = .ok (.iload_n 3, 1) := by decide +kernel
theorem d_X12_extendGreedily_121 : decode cX12_extendGreedily 121 = .ok (.iastore, 1) := by decide +kernel
theorem d_X12_extendGreedily_122 : decode cX12_extendGreedily 122 = .ok (.iinc 1 1, 3) := by decide +kernel
theorem d_X12_extendGreedily_125 : decode cX12_extendGreedily 125 = .ok (.aload_n 0, 1) := by decide +kernel
theorem d_X12_extendGreedily_126 : decode cX12_extendGreedily 126 = .ok (.iload_n 1, 1) := by decide +kernel
theorem d_X12_extendGreedily_127 : decode cX12_extendGreedily 127 = .ok (.invokevirtual 187, 3) := by decide +kernel
theorem d_X12_extendGreedily_130 : decode cX12_extendGreedily 130 = .ok (.goto (-61), 3) := by decide +kernel
theorem d_X12_extendGreedily_133 : decode cX12_extendGreedily 133 = .ok (.iload_n 1, 1) := by decide +kernel
theorem d_X12_extendGreedily_134 : decode cX12_extendGreedily 134 = .ok (.aload_n 0, 1) := by decide +kernel
theorem d_X12_extendGreedily_135 : decode cX12_extendGreedily 135 = .ok (.getfield 125, 3) := by decide +kernel
theorem d_X12_extendGreedily_138 : decode cX12_extendGreedily 138 = .ok (.isub, 1) := by decide +kernel
theorem d_X12_extendGreedily_139 : decode cX12_extendGreedily 139 = .ok (.istore_n 3, 1) := by decide +kernel
theorem d_X12_extendGreedily_140 : decode cX12_extendGreedily 140 = .ok (.aload_n 0, 1) := by decide +kernel
theorem d_X12_extendGreedily_141 : decode cX12_extendGreedily 141 = .ok (.iload_n 1, 1) := by decide +kernel
theorem d_X12_extendGreedily_142 : decode cX12_extendGreedily 142 = .ok (.invokevirtual 144, 3) := by decide +kernel
theorem d_X12_extendGreedily_145 : decode cX12_extendGreedily 145 = .ok (.iload_n 3, 1) := by decide +kernel
theorem d_X12_extendGreedily_146 : decode cX12_extendGreedily 146 = .ok (.ireturn, 1) := by decide +kernel
def f_X12_extendGreedily_130 (F : Nat) (kb69 : Int32 → Int32 → sm_M → Option (Int32 × sm_M)) (x1 : Int32) (x2 : Int32) (M : sm_M) : Option (Int32 × sm_M) := kb69 x1 x2 M
set_option maxRecDepth 100000 in
set_option maxHeartbeats 4000000 in
theorem j_X12_extendGreedily_130 {sk : List sm_Sh} (hx : sm_ext skM sk) (F : Nat) (kb69 : Int32 → Int32 → sm_M → Option (Int32 × sm_M)) (hkb69 : ∀ (x1 : Int32) (x2 : Int32) (M : sm_M) (r : Int32 × sm_M), kb69 x1 x2 M = some r → sm_J (md_X12_extendGreedily, 4, sk, .inl (some (.int r.1)), r.2) 69 [some (.ref 80), some (.int x1), some (.int x2), none] [] M) : ∀ (x1 : Int32) (x2 : Int32) (M : sm_M) (r : Int32 × sm_M), f_X12_extendGreedily_130 F kb69 x1 x2 M = some r → sm_J (md_X12_extendGreedily, 4, sk, .inl (some (.int r.1)), r.2) 130 [some (.ref 80), some (.int x1), some (.int x2), none] [] M := by
  intro x1 x2  M r h
  unfold f_X12_extendGreedily_130 at h
  refine sm_goto (t := 69) d_X12_extendGreedily_130 rfl ?_
  exact hkb69 x1 x2 M _ h
def f_X12_extendGreedily_110 (F : Nat) (kb69 : Int32 → Int32 → sm_M → Option (Int32 × sm_M)) (x1 : Int32) (x3 : Int32) (y0 : Int32) (M : sm_M) : Option (Int32 × sm_M) := if y0 = 0 then (f_X12_extendGreedily_130 F kb69 x1 y0 M) else (sm_g (sm_ib x1 240) ((f_X12_see F (x1 + 1) (sm_mi M 89 x1.toNatClampNeg x3)).bind fun q3 => f_X12_extendGreedily_130 F kb69 (x1 + 1) y0 q3))
set_option maxRecDepth 100000 in
set_option maxHeartbeats 4000000 in
theorem j_X12_extendGreedily_110 {sk : List sm_Sh} (hx : sm_ext skM sk) (F : Nat) (kb69 : Int32 → Int32 → sm_M → Option (Int32 × sm_M)) (hkb69 : ∀ (x1 : Int32) (x2 : Int32) (M : sm_M) (r : Int32 × sm_M), kb69 x1 x2 M = some r → sm_J (md_X12_extendGreedily, 4, sk, .inl (some (.int r.1)), r.2) 69 [some (.ref 80), some (.int x1), some (.int x2), none] [] M) : ∀ (x1 : Int32) (x3 : Int32) (y0 : Int32) (M : sm_M) (r : Int32 × sm_M), f_X12_extendGreedily_110 F kb69 x1 x3 y0 M = some r → sm_J (md_X12_extendGreedily, 4, sk, .inl (some (.int r.1)), r.2) 110 [some (.ref 80), some (.int x1), none, some (.int x3)] [.int y0] M := by
  intro x1 x3 y0  M r h
  unfold f_X12_extendGreedily_110 at h
  refine sm_istore_n (q := 111) (lt := [some (.ref 80), some (.int x1), some (.int y0), some (.int x3)]) d_X12_extendGreedily_110 rfl (Nat.le_of_ble_eq_true rfl) rfl rfl ?_
  refine sm_iload_n (q := 112) d_X12_extendGreedily_111 rfl rfl ?_
  refine sm_if_eq (q := 115) (t := 130) d_X12_extendGreedily_112 rfl rfl (fun c1 => ?_) (fun c1 => ?_)
  · replace h := sm_it c1 h
    refine sm_fg [3] ?_
    exact j_X12_extendGreedily_130 hx F kb69 hkb69 x1 y0 M _ h
  · replace h := sm_if c1 h
    refine sm_aload_n (q := 116) d_X12_extendGreedily_115 rfl rfl ?_
    refine sm_getr (q := 119) d_X12_extendGreedily_116 rfl fl_X12_45 (hx sx_80) rfl ?_
    refine sm_iload_n (q := 120) d_X12_extendGreedily_119 rfl rfl ?_
    refine sm_iload_n (q := 121) d_X12_extendGreedily_120 rfl rfl ?_
    obtain ⟨g2, h⟩ := sm_gt h
    refine sm_iastore (q := 122) d_X12_extendGreedily_121 rfl (hx sx_89) (sm_ib_of g2) ?_
    refine sm_iinc (q := 125) (v := (x1 + 1)) (lt := [some (.ref 80), some (.int (x1 + 1)), some (.int y0), some (.int x3)]) d_X12_extendGreedily_122 rfl rfl (ii_1 _) (Nat.le_of_ble_eq_true rfl) rfl rfl ?_
    refine sm_aload_n (q := 126) d_X12_extendGreedily_125 rfl rfl ?_
    refine sm_iload_n (q := 127) d_X12_extendGreedily_126 rfl rfl ?_
    obtain ⟨q3, e3, h⟩ := sm_bd h
    refine sm_callV (q := 130) (d' := 3) [] [.int (x1 + 1)] d_X12_extendGreedily_127 rfl lk_X12_187 (hx sx_80) rfl rfl rfl (Nat.le_of_ble_eq_true rfl) (Nat.le_of_ble_eq_true rfl) (c_X12_see hx F (x1 + 1) (sm_mi M 89 x1.toNatClampNeg x3) _ e3) (st9 := []) rfl ?_
    refine sm_fg [3] ?_
    exact j_X12_extendGreedily_130 hx F kb69 hkb69 (x1 + 1) y0 q3 _ h
def f_X12_extendGreedily_99 (F : Nat) (kb69 : Int32 → Int32 → sm_M → Option (Int32 × sm_M)) (x1 : Int32) (y0 : Int32) (M : sm_M) : Option (Int32 × sm_M) := if y0 = (-1 : Int32) then (f_X12_extendGreedily_110 F kb69 x1 y0 (0 : Int32) M) else (f_X12_extendGreedily_110 F kb69 x1 y0 (1 : Int32) M)
set_option maxRecDepth 100000 in
set_option maxHeartbeats 4000000 in
theorem j_X12_extendGreedily_99 {sk : List sm_Sh} (hx : sm_ext skM sk) (F : Nat) (kb69 : Int32 → Int32 → sm_M → Option (Int32 × sm_M)) (hkb69 : ∀ (x1 : Int32) (x2 : Int32) (M : sm_M) (r : Int32 × sm_M), kb69 x1 x2 M = some r → sm_J (md_X12_extendGreedily, 4, sk, .inl (some (.int r.1)), r.2) 69 [some (.ref 80), some (.int x1), some (.int x2), none] [] M) : ∀ (x1 : Int32) (y0 : Int32) (M : sm_M) (r : Int32 × sm_M), f_X12_extendGreedily_99 F kb69 x1 y0 M = some r → sm_J (md_X12_extendGreedily, 4, sk, .inl (some (.int r.1)), r.2) 99 [some (.ref 80), some (.int x1), none, none] [.int y0] M := by
  intro x1 y0  M r h
  unfold f_X12_extendGreedily_99 at h
  refine sm_istore_n (q := 100) (lt := [some (.ref 80), some (.int x1), none, some (.int y0)]) d_X12_extendGreedily_99 rfl (Nat.le_of_ble_eq_true rfl) rfl rfl ?_
  refine sm_iload_n (q := 101) d_X12_extendGreedily_100 rfl rfl ?_
  refine sm_iconst (q := 102) d_X12_extendGreedily_101 rfl ci_m1 ?_
  refine sm_icmp_eq (q := 105) (t := 109) d_X12_extendGreedily_102 rfl rfl (fun c1 => ?_) (fun c1 => ?_)
  · replace h := sm_it c1 h
    refine sm_iconst (q := 110) d_X12_extendGreedily_109 rfl ci_0 ?_
    exact j_X12_extendGreedily_110 hx F kb69 hkb69 x1 y0 (0 : Int32) M _ h
  · replace h := sm_if c1 h
    refine sm_iconst (q := 106) d_X12_extendGreedily_105 rfl ci_1 ?_
    refine sm_goto (t := 110) d_X12_extendGreedily_106 rfl ?_
    exact j_X12_extendGreedily_110 hx F kb69 hkb69 x1 y0 (1 : Int32) M _ h
def f_X12_extendGreedily_133 (F : Nat) (x1 : Int32) (M : sm_M) : Option (Int32 × sm_M) := (f_X12_replace F x1 M).bind fun q1 => some ((x1 - (M.1 80 12)), q1)
set_option maxRecDepth 100000 in
set_option maxHeartbeats 4000000 in
theorem j_X12_extendGreedily_133 {sk : List sm_Sh} (hx : sm_ext skM sk) (F : Nat) : ∀ (x1 : Int32) (M : sm_M) (r : Int32 × sm_M), f_X12_extendGreedily_133 F x1 M = some r → sm_J (md_X12_extendGreedily, 4, sk, .inl (some (.int r.1)), r.2) 133 [some (.ref 80), some (.int x1), none, none] [] M := by
  intro x1  M r h
  unfold f_X12_extendGreedily_133 at h
  refine sm_iload_n (q := 134) d_X12_extendGreedily_133 rfl rfl ?_
  refine sm_aload_n (q := 135) d_X12_extendGreedily_134 rfl rfl ?_
  refine sm_geti (q := 138) d_X12_extendGreedily_135 rfl fl_X12_125 (hx sx_80) rfl ?_
  refine sm_isub (q := 139) d_X12_extendGreedily_138 rfl ?_
  refine sm_istore_n (q := 140) (lt := [some (.ref 80), some (.int x1), none, some (.int (x1 - (M.1 80 12)))]) d_X12_extendGreedily_139 rfl (Nat.le_of_ble_eq_true rfl) rfl rfl ?_
  refine sm_aload_n (q := 141) d_X12_extendGreedily_140 rfl rfl ?_
  refine sm_iload_n (q := 142) d_X12_extendGreedily_141 rfl rfl ?_
  obtain ⟨q1, e1, h⟩ := sm_bd h
  refine sm_callV (q := 145) (d' := 1) [] [.int x1] d_X12_extendGreedily_142 rfl lk_X12_144 (hx sx_80) rfl rfl rfl (Nat.le_of_ble_eq_true rfl) (Nat.le_of_ble_eq_true rfl) (c_X12_replace hx F x1 M _ e1) (st9 := []) rfl ?_
  refine sm_iload_n (q := 146) d_X12_extendGreedily_145 rfl rfl ?_
  obtain rfl := Option.some.inj h
  exact sm_iret d_X12_extendGreedily_146 rfl rfl rfl rfl
def f_X12_extendGreedily_69b (F : Nat) (kb69 : Int32 → Int32 → sm_M → Option (Int32 × sm_M)) (x1 : Int32) (x2 : Int32) (M : sm_M) : Option (Int32 × sm_M) := if x2 = 0 then (f_X12_extendGreedily_133 F x1 M) else (if (240 : Int32) ≤ x1 then (f_X12_extendGreedily_133 F x1 M) else (if (M.1 80 2) ≤ (x1 + (1 : Int32)) then ((f_X12_greatest F x1 M).bind fun q4 => f_X12_extendGreedily_99 F kb69 x1 q4.1 q4.2) else (f_X12_extendGreedily_99 F kb69 x1 (0 : Int32) M)))
set_option maxRecDepth 100000 in
set_option maxHeartbeats 4000000 in
theorem j_X12_extendGreedily_69b {sk : List sm_Sh} (hx : sm_ext skM sk) (F : Nat) (kb69 : Int32 → Int32 → sm_M → Option (Int32 × sm_M)) (hkb69 : ∀ (x1 : Int32) (x2 : Int32) (M : sm_M) (r : Int32 × sm_M), kb69 x1 x2 M = some r → sm_J (md_X12_extendGreedily, 4, sk, .inl (some (.int r.1)), r.2) 69 [some (.ref 80), some (.int x1), some (.int x2), none] [] M) : ∀ (x1 : Int32) (x2 : Int32) (M : sm_M) (r : Int32 × sm_M), f_X12_extendGreedily_69b F kb69 x1 x2 M = some r → sm_J (md_X12_extendGreedily, 4, sk, .inl (some (.int r.1)), r.2) 69 [some (.ref 80), some (.int x1), some (.int x2), none] [] M := by
  intro x1 x2  M r h
  unfold f_X12_extendGreedily_69b at h
  refine sm_iload_n (q := 70) d_X12_extendGreedily_69 rfl rfl ?_
  refine sm_if_eq (q := 73) (t := 133) d_X12_extendGreedily_70 rfl rfl (fun c1 => ?_) (fun c1 => ?_)
  · replace h := sm_it c1 h
    refine sm_fg [2] ?_
    exact j_X12_extendGreedily_133 hx F x1 M _ h
  · replace h := sm_if c1 h
    refine sm_iload_n (q := 74) d_X12_extendGreedily_73 rfl rfl ?_
    refine sm_sipush (q := 77) d_X12_extendGreedily_74 rfl cs_240 ?_
    refine sm_icmp_ge (q := 80) (t := 133) d_X12_extendGreedily_77 rfl rfl (fun c2 => ?_) (fun c2 => ?_)
    · replace h := sm_it c2 h
      refine sm_fg [2] ?_
      exact j_X12_extendGreedily_133 hx F x1 M _ h
    · replace h := sm_if c2 h
      refine sm_iload_n (q := 81) d_X12_extendGreedily_80 rfl rfl ?_
      refine sm_iconst (q := 82) d_X12_extendGreedily_81 rfl ci_1 ?_
      refine sm_iadd (q := 83) d_X12_extendGreedily_82 rfl ?_
      refine sm_aload_n (q := 84) d_X12_extendGreedily_83 rfl rfl ?_
      refine sm_geti (q := 87) d_X12_extendGreedily_84 rfl fl_X12_13 (hx sx_80) rfl ?_
      refine sm_icmp_ge (q := 90) (t := 94) d_X12_extendGreedily_87 rfl rfl (fun c3 => ?_) (fun c3 => ?_)
      · replace h := sm_it c3 h
        refine sm_aload_n (q := 95) d_X12_extendGreedily_94 rfl rfl ?_
        refine sm_iload_n (q := 96) d_X12_extendGreedily_95 rfl rfl ?_
        obtain ⟨q4, e4, h⟩ := sm_bd h
        refine sm_callV (q := 99) (d' := 3) [] [.int x1] d_X12_extendGreedily_96 rfl lk_X12_190 (hx sx_80) rfl rfl rfl (Nat.le_of_ble_eq_true rfl) (Nat.le_of_ble_eq_true rfl) (c_X12_greatest hx F x1 M _ e4) (st9 := [.int q4.1]) rfl ?_
        refine sm_fg [2] ?_
        exact j_X12_extendGreedily_99 hx F kb69 hkb69 x1 q4.1 q4.2 _ h
      · replace h := sm_if c3 h
        refine sm_iconst (q := 91) d_X12_extendGreedily_90 rfl ci_0 ?_
        refine sm_goto (t := 99) d_X12_extendGreedily_91 rfl ?_
        refine sm_fg [2] ?_
        exact j_X12_extendGreedily_99 hx F kb69 hkb69 x1 (0 : Int32) M _ h
def f_X12_extendGreedily_69 (F : Nat) (n : Nat) : Int32 → Int32 → sm_M → Option (Int32 × sm_M) := match n with
 | 0 => fun _ _ _ => none
 | n + 1 => f_X12_extendGreedily_69b F (f_X12_extendGreedily_69 F n)
theorem j_X12_extendGreedily_69 {sk : List sm_Sh} (hx : sm_ext skM sk) (F : Nat) : ∀ (n : Nat) (x1 : Int32) (x2 : Int32) (M : sm_M) (r : Int32 × sm_M), f_X12_extendGreedily_69 F n x1 x2 M = some r → sm_J (md_X12_extendGreedily, 4, sk, .inl (some (.int r.1)), r.2) 69 [some (.ref 80), some (.int x1), some (.int x2), none] [] M := by
  intro n
  induction n with
  | zero => intro x1 x2  M r h; exact nomatch (show (none : Option (Int32 × sm_M)) = some r from h)
  | succ n ih => exact j_X12_extendGreedily_69b hx F (f_X12_extendGreedily_69 F n) ih
def f_X12_extendGreedily_34b (F : Nat) (kb34 : Int32 → Int32 → sm_M → Option (Int32 × sm_M)) (x1 : Int32) (x2 : Int32) (M : sm_M) : Option (Int32 × sm_M) := if (M.1 80 12) ≤ x2 then (f_X12_extendGreedily_69 F F x1 (1 : Int32) M) else (sm_g (sm_ib x2 240) (sm_g (sm_ib x2 240) ((f_X12_see F (x2 + (1 : Int32)) (sm_mi M 89 x2.toNatClampNeg (M.1 86 x2.toNatClampNeg))).bind fun q4 => kb34 x1 (x2 + 1) q4)))
set_option maxRecDepth 100000 in
set_option maxHeartbeats 4000000 in
theorem j_X12_extendGreedily_34b {sk : List sm_Sh} (hx : sm_ext skM sk) (F : Nat) (kb34 : Int32 → Int32 → sm_M → Option (Int32 × sm_M)) (hkb34 : ∀ (x1 : Int32) (x2 : Int32) (M : sm_M) (r : Int32 × sm_M), kb34 x1 x2 M = some r → sm_J (md_X12_extendGreedily, 4, sk, .inl (some (.int r.1)), r.2) 34 [some (.ref 80), some (.int x1), some (.int x2), none] [] M) : ∀ (x1 : Int32) (x2 : Int32) (M : sm_M) (r : Int32 × sm_M), f_X12_extendGreedily_34b F kb34 x1 x2 M = some r → sm_J (md_X12_extendGreedily, 4, sk, .inl (some (.int r.1)), r.2) 34 [some (.ref 80), some (.int x1), some (.int x2), none] [] M := by
  intro x1 x2  M r h
  unfold f_X12_extendGreedily_34b at h
  refine sm_iload_n (q := 35) d_X12_extendGreedily_34 rfl rfl ?_
  refine sm_aload_n (q := 36) d_X12_extendGreedily_35 rfl rfl ?_
  refine sm_geti (q := 39) d_X12_extendGreedily_36 rfl fl_X12_125 (hx sx_80) rfl ?_
  refine sm_icmp_ge (q := 42) (t := 67) d_X12_extendGreedily_39 rfl rfl (fun c1 => ?_) (fun c1 => ?_)
  · replace h := sm_it c1 h
    refine sm_iconst (q := 68) d_X12_extendGreedily_67 rfl ci_1 ?_
    refine sm_istore_n (q := 69) (lt := [some (.ref 80), some (.int x1), some (.int (1 : Int32)), none]) d_X12_extendGreedily_68 rfl (Nat.le_of_ble_eq_true rfl) rfl rfl ?_
    exact j_X12_extendGreedily_69 hx F F x1 (1 : Int32) M _ h
  · replace h := sm_if c1 h
    refine sm_aload_n (q := 43) d_X12_extendGreedily_42 rfl rfl ?_
    refine sm_getr (q := 46) d_X12_extendGreedily_43 rfl fl_X12_45 (hx sx_80) rfl ?_
    refine sm_iload_n (q := 47) d_X12_extendGreedily_46 rfl rfl ?_
    refine sm_aload_n (q := 48) d_X12_extendGreedily_47 rfl rfl ?_
    refine sm_getr (q := 51) d_X12_extendGreedily_48 rfl fl_X12_36 (hx sx_80) rfl ?_
    refine sm_iload_n (q := 52) d_X12_extendGreedily_51 rfl rfl ?_
    obtain ⟨g2, h⟩ := sm_gt h
    refine sm_iaload (q := 53) d_X12_extendGreedily_52 rfl (hx sx_86) (sm_ib_of g2) ?_
    obtain ⟨g3, h⟩ := sm_gt h
    refine sm_iastore (q := 54) d_X12_extendGreedily_53 rfl (hx sx_89) (sm_ib_of g3) ?_
    refine sm_aload_n (q := 55) d_X12_extendGreedily_54 rfl rfl ?_
    refine sm_iload_n (q := 56) d_X12_extendGreedily_55 rfl rfl ?_
    refine sm_iconst (q := 57) d_X12_extendGreedily_56 rfl ci_1 ?_
    refine sm_iadd (q := 58) d_X12_extendGreedily_57 rfl ?_
    obtain ⟨q4, e4, h⟩ := sm_bd h
    refine sm_callV (q := 61) (d' := 3) [] [.int (x2 + (1 : Int32))] d_X12_extendGreedily_58 rfl lk_X12_187 (hx sx_80) rfl rfl rfl (Nat.le_of_ble_eq_true rfl) (Nat.le_of_ble_eq_true rfl) (c_X12_see hx F (x2 + (1 : Int32)) (sm_mi M 89 x2.toNatClampNeg (M.1 86 x2.toNatClampNeg)) _ e4) (st9 := []) rfl ?_
    refine sm_iinc (q := 64) (v := (x2 + 1)) (lt := [some (.ref 80), some (.int x1), some (.int (x2 + 1)), none]) d_X12_extendGreedily_61 rfl rfl (ii_1 _) (Nat.le_of_ble_eq_true rfl) rfl rfl ?_
    refine sm_goto (t := 34) d_X12_extendGreedily_64 rfl ?_
    exact hkb34 x1 (x2 + 1) q4 _ h
def f_X12_extendGreedily_34 (F : Nat) (n : Nat) : Int32 → Int32 → sm_M → Option (Int32 × sm_M) := match n with
 | 0 => fun _ _ _ => none
 | n + 1 => f_X12_extendGreedily_34b F (f_X12_extendGreedily_34 F n)
theorem j_X12_extendGreedily_34 {sk : List sm_Sh} (hx : sm_ext skM sk) (F : Nat) : ∀ (n : Nat) (x1 : Int32) (x2 : Int32) (M : sm_M) (r : Int32 × sm_M), f_X12_extendGreedily_34 F n x1 x2 M = some r → sm_J (md_X12_extendGreedily, 4, sk, .inl (some (.int r.1)), r.2) 34 [some (.ref 80), some (.int x1), some (.int x2), none] [] M := by
  intro n
  induction n with
  | zero => intro x1 x2  M r h; exact nomatch (show (none : Option (Int32 × sm_M)) = some r from h)
  | succ n ih => exact j_X12_extendGreedily_34b hx F (f_X12_extendGreedily_34 F n) ih
def f_X12_extendGreedily_12b (F : Nat) (kb12 : Int32 → Int32 → sm_M → Option (Int32 × sm_M)) (x1 : Int32) (x2 : Int32) (M : sm_M) : Option (Int32 × sm_M) := if (200 : Int32) ≤ x2 then (f_X12_extendGreedily_34 F F x1 (0 : Int32) M) else (sm_g (sm_ib x2 200) (kb12 x1 (x2 + 1) ((sm_mi M 93 x2.toNatClampNeg (vp_nar .boolean (0 : Int32))))))
set_option maxRecDepth 100000 in
set_option maxHeartbeats 4000000 in
theorem j_X12_extendGreedily_12b {sk : List sm_Sh} (hx : sm_ext skM sk) (F : Nat) (kb12 : Int32 → Int32 → sm_M → Option (Int32 × sm_M)) (hkb12 : ∀ (x1 : Int32) (x2 : Int32) (M : sm_M) (r : Int32 × sm_M), kb12 x1 x2 M = some r → sm_J (md_X12_extendGreedily, 4, sk, .inl (some (.int r.1)), r.2) 12 [some (.ref 80), some (.int x1), some (.int x2), none] [] M) : ∀ (x1 : Int32) (x2 : Int32) (M : sm_M) (r : Int32 × sm_M), f_X12_extendGreedily_12b F kb12 x1 x2 M = some r → sm_J (md_X12_extendGreedily, 4, sk, .inl (some (.int r.1)), r.2) 12 [some (.ref 80), some (.int x1), some (.int x2), none] [] M := by
  intro x1 x2  M r h
  unfold f_X12_extendGreedily_12b at h
  refine sm_iload_n (q := 13) d_X12_extendGreedily_12 rfl rfl ?_
  refine sm_sipush (q := 16) d_X12_extendGreedily_13 rfl cs_200 ?_
  refine sm_icmp_ge (q := 19) (t := 32) d_X12_extendGreedily_16 rfl rfl (fun c1 => ?_) (fun c1 => ?_)
  · replace h := sm_it c1 h
    refine sm_iconst (q := 33) d_X12_extendGreedily_32 rfl ci_0 ?_
    refine sm_istore_n (q := 34) (lt := [some (.ref 80), some (.int x1), some (.int (0 : Int32)), none]) d_X12_extendGreedily_33 rfl (Nat.le_of_ble_eq_true rfl) rfl rfl ?_
    exact j_X12_extendGreedily_34 hx F F x1 (0 : Int32) M _ h
  · replace h := sm_if c1 h
    refine sm_aload_n (q := 20) d_X12_extendGreedily_19 rfl rfl ?_
    refine sm_getr (q := 23) d_X12_extendGreedily_20 rfl fl_X12_58 (hx sx_80) rfl ?_
    refine sm_iload_n (q := 24) d_X12_extendGreedily_23 rfl rfl ?_
    refine sm_iconst (q := 25) d_X12_extendGreedily_24 rfl ci_0 ?_
    obtain ⟨g2, h⟩ := sm_gt h
    refine sm_bastore (q := 26) d_X12_extendGreedily_25 rfl (hx sx_93) (sm_ib_of g2) ?_
    refine sm_iinc (q := 29) (v := (x2 + 1)) (lt := [some (.ref 80), some (.int x1), some (.int (x2 + 1)), none]) d_X12_extendGreedily_26 rfl rfl (ii_1 _) (Nat.le_of_ble_eq_true rfl) rfl rfl ?_
    refine sm_goto (t := 12) d_X12_extendGreedily_29 rfl ?_
    exact hkb12 x1 (x2 + 1) ((sm_mi M 93 x2.toNatClampNeg (vp_nar .boolean (0 : Int32)))) _ h
def f_X12_extendGreedily_12 (F : Nat) (n : Nat) : Int32 → Int32 → sm_M → Option (Int32 × sm_M) := match n with
 | 0 => fun _ _ _ => none
 | n + 1 => f_X12_extendGreedily_12b F (f_X12_extendGreedily_12 F n)
theorem j_X12_extendGreedily_12 {sk : List sm_Sh} (hx : sm_ext skM sk) (F : Nat) : ∀ (n : Nat) (x1 : Int32) (x2 : Int32) (M : sm_M) (r : Int32 × sm_M), f_X12_extendGreedily_12 F n x1 x2 M = some r → sm_J (md_X12_extendGreedily, 4, sk, .inl (some (.int r.1)), r.2) 12 [some (.ref 80), some (.int x1), some (.int x2), none] [] M := by
  intro n
  induction n with
  | zero => intro x1 x2  M r h; exact nomatch (show (none : Option (Int32 × sm_M)) = some r from h)
  | succ n ih => exact j_X12_extendGreedily_12b hx F (f_X12_extendGreedily_12 F n) ih
def f_X12_extendGreedily (F : Nat) (M : sm_M) : Option (Int32 × sm_M) := f_X12_extendGreedily_12 F F (((sm_mi M 80 0 (0 : Int32))).1 80 12) (0 : Int32) ((sm_mi M 80 0 (0 : Int32)))
set_option maxRecDepth 100000 in
set_option maxHeartbeats 4000000 in
theorem j_X12_extendGreedily {sk : List sm_Sh} (hx : sm_ext skM sk) (F : Nat) : ∀ (M : sm_M) (r : Int32 × sm_M), f_X12_extendGreedily F M = some r → sm_J (md_X12_extendGreedily, 4, sk, .inl (some (.int r.1)), r.2) 0 [some (.ref 80), none, none, none] [] M := by
  intro   M r h
  unfold f_X12_extendGreedily at h
  refine sm_aload_n (q := 1) d_X12_extendGreedily_0 rfl rfl ?_
  refine sm_iconst (q := 2) d_X12_extendGreedily_1 rfl ci_0 ?_
  refine sm_puti (q := 5) d_X12_extendGreedily_2 rfl fw_X12_1 (hx sx_80) rfl rfl rfl ?_
  refine sm_aload_n (q := 6) d_X12_extendGreedily_5 rfl rfl ?_
  refine sm_geti (q := 9) d_X12_extendGreedily_6 rfl fl_X12_125 (hx sx_80) rfl ?_
  refine sm_istore_n (q := 10) (lt := [some (.ref 80), some (.int (((sm_mi M 80 0 (0 : Int32))).1 80 12)), none, none]) d_X12_extendGreedily_9 rfl (Nat.le_of_ble_eq_true rfl) rfl rfl ?_
  refine sm_iconst (q := 11) d_X12_extendGreedily_10 rfl ci_0 ?_
  refine sm_istore_n (q := 12) (lt := [some (.ref 80), some (.int (((sm_mi M 80 0 (0 : Int32))).1 80 12)), some (.int (0 : Int32)), none]) d_X12_extendGreedily_11 rfl (Nat.le_of_ble_eq_true rfl) rfl rfl ?_
  exact j_X12_extendGreedily_12 hx F F (((sm_mi M 80 0 (0 : Int32))).1 80 12) (0 : Int32) ((sm_mi M 80 0 (0 : Int32))) _ h
theorem c_X12_extendGreedily {sk : List sm_Sh} (hx : sm_ext skM sk) (F : Nat) (M : sm_M) (r : Int32 × sm_M) (h : f_X12_extendGreedily F M = some r) : sm_Ct yX12_extendGreedily md_X12_extendGreedily 4 sk [.ref 80] M (.inl (some (.int r.1))) r.2 := sm_enter 3 pn_X12 rfl (Nat.le_of_ble_eq_true rfl) rfl (j_X12_extendGreedily hx F M r h)
/-! UniversalCyclesModel.isNew(I)Z -/
theorem d_X12_isNew_0 : decode cX12_isNew 0 = .ok (.iconst 0, 1) := by decide +kernel
theorem d_X12_isNew_1 : decode cX12_isNew 1 = .ok (.istore_n 2, 1) := by decide +kernel
theorem d_X12_isNew_2 : decode cX12_isNew 2 = .ok (.iload_n 2, 1) := by decide +kernel
theorem d_X12_isNew_3 : decode cX12_isNew 3 = .ok (.aload_n 0, 1) := by decide +kernel
theorem d_X12_isNew_4 : decode cX12_isNew 4 = .ok (.getfield 13, 3) := by decide +kernel
theorem d_X12_isNew_7 : decode cX12_isNew 7 = .ok (.if_icmp .ge 28, 3) := by decide +kernel
theorem d_X12_isNew_10 : decode cX12_isNew 10 = .ok (.aload_n 0, 1) := by decide +kernel
theorem d_X12_isNew_11 : decode cX12_isNew 11 = .ok (.getfield 55, 3) := by decide +kernel
theorem d_X12_isNew_14 : decode cX12_isNew 14 = .ok (.iload_n 2, 1) := by decide +kernel
theorem d_X12_isNew_15 : decode cX12_isNew 15 = .ok (.aload_n 0, 1) := by decide +kernel
theorem d_X12_isNew_16 : decode cX12_isNew 16 = .ok (.getfield 45, 3) := by decide +kernel
theorem d_X12_isNew_19 : decode cX12_isNew 19 = .ok (.iload_n 1, 1) := by decide +kernel
theorem d_X12_isNew_20 : decode cX12_isNew 20 = .ok (.iload_n 2, 1) := by decide +kernel
theorem d_X12_isNew_21 : decode cX12_isNew 21 = .ok (.iadd, 1) := by decide +kernel
theorem d_X12_isNew_22 : decode cX12_isNew 22 = .ok (.aload_n 0, 1) := by decide +kernel
theorem d_X12_isNew_23 : decode cX12_isNew 23 = .ok (.getfield 97, 3) := by decide +kernel
theorem d_X12_isNew_26 : decode cX12_isNew 26 = .ok (.irem, 1) := by decide +kernel
theorem d_X12_isNew_27 : decode cX12_isNew 27 = .ok (.iaload, 1) := by decide +kernel
theorem d_X12_isNew_28 : decode cX12_isNew 28 = .ok (.iastore, 1) := by decide +kernel
theorem d_X12_isNew_29 : decode cX12_isNew 29 = .ok (.iinc 2 1, 3) := by decide +kernel
theorem d_X12_isNew_32 : decode cX12_isNew 32 = .ok (.goto (-30), 3) := by decide +kernel
theorem d_X12_isNew_35 : decode cX12_isNew 35 = .ok (.aload_n 0, 1) := by decide +kernel
theorem d_X12_isNew_36 : decode cX12_isNew 36 = .ok (.getfield 62, 3) := by decide +kernel
theorem d_X12_isNew_39 : decode cX12_isNew 39 = .ok (.iload_n 1, 1) := by decide +kernel
theorem d_X12_isNew_40 : decode cX12_isNew 40 = .ok (.aload_n 0, 1) := by decide +kernel
theorem d_X12_isNew_41 : decode cX12_isNew 41 = .ok (.invokevirtual 158, 3) := by decide +kernel
theorem d_X12_isNew_44 : decode cX12_isNew 44 = .ok (.iastore, 1) := by decide +kernel
theorem d_X12_isNew_45 : decode cX12_isNew 45 = .ok (.iconst 0, 1) := by decide +kernel
theorem d_X12_isNew_46 : decode cX12_isNew 46 = .ok (.istore_n 2, 1) := by decide +kernel
theorem d_X12_isNew_47 : decode cX12_isNew 47 = .ok (.iload_n 2, 1) := by decide +kernel
theorem d_X12_isNew_48 : decode cX12_isNew 48 = .ok (.iload_n 1, 1) := by decide +kernel
theorem d_X12_isNew_49 : decode cX12_isNew 49 = .ok (.if_icmp .ge 26, 3) := by decide +kernel
theorem d_X12_isNew_52 : decode cX12_isNew 52 = .ok (.aload_n 0, 1) := by decide +kernel
theorem d_X12_isNew_53 : decode cX12_isNew 53 = .ok (.getfield 62, 3) := by decide +kernel
theorem d_X12_isNew_56 : decode cX12_isNew 56 = .ok (.iload_n 2, 1) := by decide +kernel
theorem d_X12_isNew_57 : decode cX12_isNew 57 = .ok (.iaload, 1) := by decide +kernel
theorem d_X12_isNew_58 : decode cX12_isNew 58 = .ok (.aload_n 0, 1) := by decide +kernel
theorem d_X12_isNew_59 : decode cX12_isNew 59 = .ok (.getfield 62, 3) := by decide +kernel
theorem d_X12_isNew_62 : decode cX12_isNew 62 = .ok (.iload_n 1, 1) := by decide +kernel
theorem d_X12_isNew_63 : decode cX12_isNew 63 = .ok (.iaload, 1) := by decide +kernel
theorem d_X12_isNew_64 : decode cX12_isNew 64 = .ok (.if_icmp .ne 5, 3) := by decide +kernel
theorem d_X12_isNew_67 : decode cX12_isNew 67 = .ok (.iconst 0, 1) := by decide +kernel
theorem d_X12_isNew_68 : decode cX12_isNew 68 = .ok (.ireturn, 1) := by decide +kernel
theorem d_X12_isNew_69 : decode cX12_isNew 69 = .ok (.iinc 2 1, 3) := by decide +kernel
theorem d_X12_isNew_72 : decode cX12_isNew 72 = .ok (.goto (-25), 3) := by decide +kernel
theorem d_X12_isNew_75 : decode cX12_isNew 75 = .ok (.aload_n 0, 1) := by decide +kernel
theorem d_X12_isNew_76 : decode cX12_isNew 76 = .ok (.getfield 62, 3) := by decide +kernel
theorem d_X12_isNew_79 : decode cX12_isNew 79 = .ok (.iload_n 1, 1) := by decide +kernel
theorem d_X12_isNew_80 : decode cX12_isNew 80 = .ok (.iaload, 1) := by decide +kernel
theorem d_X12_isNew_81 : decode cX12_isNew 81 = .ok (.iconst (-1), 1) := by decide +kernel
theorem d_X12_isNew_82 : decode cX12_isNew 82 = .ok (.if_icmp .eq 7, 3) := by decide +kernel
theorem d_X12_isNew_85 : decode cX12_isNew 85 = .ok (.iconst 1, 1) := by decide +kernel
theorem d_X12_isNew_86 : decode cX12_isNew 86 = .ok (.goto 4, 3) := by decide +kernel
theorem d_X12_isNew_89 : decode cX12_isNew 89 = .ok (.iconst 0, 1) := by decide +kernel
theorem d_X12_isNew_90 : decode cX12_isNew 90 = .ok (.ireturn, 1) := by decide +kernel
def f_X12_isNew_90 (F : Nat) (y0 : Int32) (M : sm_M) : Option (Int32 × sm_M) := sm_g (sm_nar .boolean y0) (some (y0, M))
set_option maxRecDepth 100000 in
set_option maxHeartbeats 4000000 in
theorem j_X12_isNew_90 {sk : List sm_Sh} (hx : sm_ext skM sk) (F : Nat) : ∀ (y0 : Int32) (M : sm_M) (r : Int32 × sm_M), f_X12_isNew_90 F y0 M = some r → sm_J (md_X12_isNew, 2, sk, .inl (some (.int r.1)), r.2) 90 [none, none, none] [.int y0] M := by
  intro y0  M r h
  unfold f_X12_isNew_90 at h
  obtain ⟨g1, h⟩ := sm_gt h
  obtain rfl := Option.some.inj h
  exact sm_iret d_X12_isNew_90 rfl (sm_nar_of g1).1 rfl rfl
def f_X12_isNew_47b (F : Nat) (kb47 : Int32 → Int32 → sm_M → Option (Int32 × sm_M)) (x1 : Int32) (x2 : Int32) (M : sm_M) : Option (Int32 × sm_M) := if x1 ≤ x2 then (sm_g (sm_ib x1 240) (if (M.1 94 x1.toNatClampNeg) = (-1 : Int32) then (f_X12_isNew_90 F (0 : Int32) M) else (f_X12_isNew_90 F (1 : Int32) M))) else (sm_g (sm_ib x2 240) (sm_g (sm_ib x1 240) (if (M.1 94 x2.toNatClampNeg) = (M.1 94 x1.toNatClampNeg) then (some ((0 : Int32), M)) else (kb47 x1 (x2 + 1) M))))
set_option maxRecDepth 100000 in
set_option maxHeartbeats 4000000 in
theorem j_X12_isNew_47b {sk : List sm_Sh} (hx : sm_ext skM sk) (F : Nat) (kb47 : Int32 → Int32 → sm_M → Option (Int32 × sm_M)) (hkb47 : ∀ (x1 : Int32) (x2 : Int32) (M : sm_M) (r : Int32 × sm_M), kb47 x1 x2 M = some r → sm_J (md_X12_isNew, 2, sk, .inl (some (.int r.1)), r.2) 47 [some (.ref 80), some (.int x1), some (.int x2)] [] M) : ∀ (x1 : Int32) (x2 : Int32) (M : sm_M) (r : Int32 × sm_M), f_X12_isNew_47b F kb47 x1 x2 M = some r → sm_J (md_X12_isNew, 2, sk, .inl (some (.int r.1)), r.2) 47 [some (.ref 80), some (.int x1), some (.int x2)] [] M := by
  intro x1 x2  M r h
  unfold f_X12_isNew_47b at h
  refine sm_iload_n (q := 48) d_X12_isNew_47 rfl rfl ?_
  refine sm_iload_n (q := 49) d_X12_isNew_48 rfl rfl ?_
  refine sm_icmp_ge (q := 52) (t := 75) d_X12_isNew_49 rfl rfl (fun c1 => ?_) (fun c1 => ?_)
  · replace h := sm_it c1 h
    refine sm_aload_n (q := 76) d_X12_isNew_75 rfl rfl ?_
    refine sm_getr (q := 79) d_X12_isNew_76 rfl fl_X12_62 (hx sx_80) rfl ?_
    refine sm_iload_n (q := 80) d_X12_isNew_79 rfl rfl ?_
    obtain ⟨g2, h⟩ := sm_gt h
    refine sm_iaload (q := 81) d_X12_isNew_80 rfl (hx sx_94) (sm_ib_of g2) ?_
    refine sm_iconst (q := 82) d_X12_isNew_81 rfl ci_m1 ?_
    refine sm_icmp_eq (q := 85) (t := 89) d_X12_isNew_82 rfl rfl (fun c3 => ?_) (fun c3 => ?_)
    · replace h := sm_it c3 h
      refine sm_iconst (q := 90) d_X12_isNew_89 rfl ci_0 ?_
      refine sm_fg [0, 1, 2] ?_
      exact j_X12_isNew_90 hx F (0 : Int32) M _ h
    · replace h := sm_if c3 h
      refine sm_iconst (q := 86) d_X12_isNew_85 rfl ci_1 ?_
      refine sm_goto (t := 90) d_X12_isNew_86 rfl ?_
      refine sm_fg [0, 1, 2] ?_
      exact j_X12_isNew_90 hx F (1 : Int32) M _ h
  · replace h := sm_if c1 h
    refine sm_aload_n (q := 53) d_X12_isNew_52 rfl rfl ?_
    refine sm_getr (q := 56) d_X12_isNew_53 rfl fl_X12_62 (hx sx_80) rfl ?_
    refine sm_iload_n (q := 57) d_X12_isNew_56 rfl rfl ?_
    obtain ⟨g4, h⟩ := sm_gt h
    refine sm_iaload (q := 58) d_X12_isNew_57 rfl (hx sx_94) (sm_ib_of g4) ?_
    refine sm_aload_n (q := 59) d_X12_isNew_58 rfl rfl ?_
    refine sm_getr (q := 62) d_X12_isNew_59 rfl fl_X12_62 (hx sx_80) rfl ?_
    refine sm_iload_n (q := 63) d_X12_isNew_62 rfl rfl ?_
    obtain ⟨g5, h⟩ := sm_gt h
    refine sm_iaload (q := 64) d_X12_isNew_63 rfl (hx sx_94) (sm_ib_of g5) ?_
    refine sm_icmp_ne (q := 67) (t := 69) d_X12_isNew_64 rfl rfl (fun c6 => ?_) (fun c6 => ?_)
    · replace h := sm_if c6 h
      refine sm_iinc (q := 72) (v := (x2 + 1)) (lt := [some (.ref 80), some (.int x1), some (.int (x2 + 1))]) d_X12_isNew_69 rfl rfl (ii_1 _) (Nat.le_of_ble_eq_true rfl) rfl rfl ?_
      refine sm_goto (t := 47) d_X12_isNew_72 rfl ?_
      exact hkb47 x1 (x2 + 1) M _ h
    · replace h := sm_it c6 h
      refine sm_iconst (q := 68) d_X12_isNew_67 rfl ci_0 ?_
      obtain rfl := Option.some.inj h
      exact sm_iret d_X12_isNew_68 rfl (by decide) rfl rfl
def f_X12_isNew_47 (F : Nat) (n : Nat) : Int32 → Int32 → sm_M → Option (Int32 × sm_M) := match n with
 | 0 => fun _ _ _ => none
 | n + 1 => f_X12_isNew_47b F (f_X12_isNew_47 F n)
theorem j_X12_isNew_47 {sk : List sm_Sh} (hx : sm_ext skM sk) (F : Nat) : ∀ (n : Nat) (x1 : Int32) (x2 : Int32) (M : sm_M) (r : Int32 × sm_M), f_X12_isNew_47 F n x1 x2 M = some r → sm_J (md_X12_isNew, 2, sk, .inl (some (.int r.1)), r.2) 47 [some (.ref 80), some (.int x1), some (.int x2)] [] M := by
  intro n
  induction n with
  | zero => intro x1 x2  M r h; exact nomatch (show (none : Option (Int32 × sm_M)) = some r from h)
  | succ n ih => exact j_X12_isNew_47b hx F (f_X12_isNew_47 F n) ih
def f_X12_isNew_2b (F : Nat) (kb2 : Int32 → Int32 → sm_M → Option (Int32 × sm_M)) (x1 : Int32) (x2 : Int32) (M : sm_M) : Option (Int32 × sm_M) := if (M.1 80 2) ≤ x2 then ((f_X12_shown F M).bind fun q2 => sm_g (sm_ib x1 240) (f_X12_isNew_47 F F x1 (0 : Int32) ((sm_mi M 94 x1.toNatClampNeg q2)))) else (sm_g (sm_nz (M.1 80 5)) (sm_g (sm_ib ((x1 + x2) - (x1 + x2) / (M.1 80 5) * (M.1 80 5)) 240) (sm_g (sm_ib x2 5) (kb2 x1 (x2 + 1) ((sm_mi M 92 x2.toNatClampNeg (M.1 89 ((x1 + x2) - (x1 + x2) / (M.1 80 5) * (M.1 80 5)).toNatClampNeg)))))))
set_option maxRecDepth 100000 in
set_option maxHeartbeats 4000000 in
theorem j_X12_isNew_2b {sk : List sm_Sh} (hx : sm_ext skM sk) (F : Nat) (kb2 : Int32 → Int32 → sm_M → Option (Int32 × sm_M)) (hkb2 : ∀ (x1 : Int32) (x2 : Int32) (M : sm_M) (r : Int32 × sm_M), kb2 x1 x2 M = some r → sm_J (md_X12_isNew, 2, sk, .inl (some (.int r.1)), r.2) 2 [some (.ref 80), some (.int x1), some (.int x2)] [] M) : ∀ (x1 : Int32) (x2 : Int32) (M : sm_M) (r : Int32 × sm_M), f_X12_isNew_2b F kb2 x1 x2 M = some r → sm_J (md_X12_isNew, 2, sk, .inl (some (.int r.1)), r.2) 2 [some (.ref 80), some (.int x1), some (.int x2)] [] M := by
  intro x1 x2  M r h
  unfold f_X12_isNew_2b at h
  refine sm_iload_n (q := 3) d_X12_isNew_2 rfl rfl ?_
  refine sm_aload_n (q := 4) d_X12_isNew_3 rfl rfl ?_
  refine sm_geti (q := 7) d_X12_isNew_4 rfl fl_X12_13 (hx sx_80) rfl ?_
  refine sm_icmp_ge (q := 10) (t := 35) d_X12_isNew_7 rfl rfl (fun c1 => ?_) (fun c1 => ?_)
  · replace h := sm_it c1 h
    refine sm_aload_n (q := 36) d_X12_isNew_35 rfl rfl ?_
    refine sm_getr (q := 39) d_X12_isNew_36 rfl fl_X12_62 (hx sx_80) rfl ?_
    refine sm_iload_n (q := 40) d_X12_isNew_39 rfl rfl ?_
    refine sm_aload_n (q := 41) d_X12_isNew_40 rfl rfl ?_
    obtain ⟨q2, e2, h⟩ := sm_bd h
    refine sm_callV (q := 44) (d' := 1) [.int x1, .ref 94] [] d_X12_isNew_41 rfl lk_X12_158 (hx sx_80) rfl rfl rfl (Nat.le_of_ble_eq_true rfl) (Nat.le_of_ble_eq_true rfl) (c_X12_shown hx F M _ e2) (st9 := [.int q2, .int x1, .ref 94]) rfl ?_
    obtain ⟨g3, h⟩ := sm_gt h
    refine sm_iastore (q := 45) d_X12_isNew_44 rfl (hx sx_94) (sm_ib_of g3) ?_
    refine sm_iconst (q := 46) d_X12_isNew_45 rfl ci_0 ?_
    refine sm_istore_n (q := 47) (lt := [some (.ref 80), some (.int x1), some (.int (0 : Int32))]) d_X12_isNew_46 rfl (Nat.le_of_ble_eq_true rfl) rfl rfl ?_
    exact j_X12_isNew_47 hx F F x1 (0 : Int32) ((sm_mi M 94 x1.toNatClampNeg q2)) _ h
  · replace h := sm_if c1 h
    refine sm_aload_n (q := 11) d_X12_isNew_10 rfl rfl ?_
    refine sm_getr (q := 14) d_X12_isNew_11 rfl fl_X12_55 (hx sx_80) rfl ?_
    refine sm_iload_n (q := 15) d_X12_isNew_14 rfl rfl ?_
    refine sm_aload_n (q := 16) d_X12_isNew_15 rfl rfl ?_
    refine sm_getr (q := 19) d_X12_isNew_16 rfl fl_X12_45 (hx sx_80) rfl ?_
    refine sm_iload_n (q := 20) d_X12_isNew_19 rfl rfl ?_
    refine sm_iload_n (q := 21) d_X12_isNew_20 rfl rfl ?_
    refine sm_iadd (q := 22) d_X12_isNew_21 rfl ?_
    refine sm_aload_n (q := 23) d_X12_isNew_22 rfl rfl ?_
    refine sm_geti (q := 26) d_X12_isNew_23 rfl fl_X12_97 (hx sx_80) rfl ?_
    obtain ⟨g4, h⟩ := sm_gt h
    refine sm_irem (q := 27) d_X12_isNew_26 rfl (sm_nz_of g4) ?_
    obtain ⟨g5, h⟩ := sm_gt h
    refine sm_iaload (q := 28) d_X12_isNew_27 rfl (hx sx_89) (sm_ib_of g5) ?_
    obtain ⟨g6, h⟩ := sm_gt h
    refine sm_iastore (q := 29) d_X12_isNew_28 rfl (hx sx_92) (sm_ib_of g6) ?_
    refine sm_iinc (q := 32) (v := (x2 + 1)) (lt := [some (.ref 80), some (.int x1), some (.int (x2 + 1))]) d_X12_isNew_29 rfl rfl (ii_1 _) (Nat.le_of_ble_eq_true rfl) rfl rfl ?_
    refine sm_goto (t := 2) d_X12_isNew_32 rfl ?_
    exact hkb2 x1 (x2 + 1) ((sm_mi M 92 x2.toNatClampNeg (M.1 89 ((x1 + x2) - (x1 + x2) / (M.1 80 5) * (M.1 80 5)).toNatClampNeg))) _ h
def f_X12_isNew_2 (F : Nat) (n : Nat) : Int32 → Int32 → sm_M → Option (Int32 × sm_M) := match n with
 | 0 => fun _ _ _ => none
 | n + 1 => f_X12_isNew_2b F (f_X12_isNew_2 F n)
theorem j_X12_isNew_2 {sk : List sm_Sh} (hx : sm_ext skM sk) (F : Nat) : ∀ (n : Nat) (x1 : Int32) (x2 : Int32) (M : sm_M) (r : Int32 × sm_M), f_X12_isNew_2 F n x1 x2 M = some r → sm_J (md_X12_isNew, 2, sk, .inl (some (.int r.1)), r.2) 2 [some (.ref 80), some (.int x1), some (.int x2)] [] M := by
  intro n
  induction n with
  | zero => intro x1 x2  M r h; exact nomatch (show (none : Option (Int32 × sm_M)) = some r from h)
  | succ n ih => exact j_X12_isNew_2b hx F (f_X12_isNew_2 F n) ih
def f_X12_isNew (F : Nat) (x1 : Int32) (M : sm_M) : Option (Int32 × sm_M) := f_X12_isNew_2 F F x1 (0 : Int32) M
set_option maxRecDepth 100000 in
set_option maxHeartbeats 4000000 in
theorem j_X12_isNew {sk : List sm_Sh} (hx : sm_ext skM sk) (F : Nat) : ∀ (x1 : Int32) (M : sm_M) (r : Int32 × sm_M), f_X12_isNew F x1 M = some r → sm_J (md_X12_isNew, 2, sk, .inl (some (.int r.1)), r.2) 0 [some (.ref 80), some (.int x1), none] [] M := by
  intro x1  M r h
  unfold f_X12_isNew at h
  refine sm_iconst (q := 1) d_X12_isNew_0 rfl ci_0 ?_
  refine sm_istore_n (q := 2) (lt := [some (.ref 80), some (.int x1), some (.int (0 : Int32))]) d_X12_isNew_1 rfl (Nat.le_of_ble_eq_true rfl) rfl rfl ?_
  exact j_X12_isNew_2 hx F F x1 (0 : Int32) M _ h
theorem c_X12_isNew {sk : List sm_Sh} (hx : sm_ext skM sk) (F : Nat) (x1 : Int32) (M : sm_M) (r : Int32 × sm_M) (h : f_X12_isNew F x1 M = some r) : sm_Ct yX12_isNew md_X12_isNew 2 sk [.ref 80, .int x1] M (.inl (some (.int r.1))) r.2 := sm_enter 1 pn_X12 rfl (Nat.le_of_ble_eq_true rfl) rfl (j_X12_isNew hx F x1 M r h)
/-! UniversalCyclesModel.isGood(I)Z -/
theorem d_X12_isGood_0 : decode cX12_isGood 0 = .ok (.iload_n 1, 1) := by decide +kernel
theorem d_X12_isGood_1 : decode cX12_isGood 1 = .ok (.aload_n 0, 1) := by decide +kernel
theorem d_X12_isGood_2 : decode cX12_isGood 2 = .ok (.getfield 13, 3) := by decide +kernel
theorem d_X12_isGood_5 : decode cX12_isGood 5 = .ok (.iconst 1, 1) := by decide +kernel
theorem d_X12_isGood_6 : decode cX12_isGood 6 = .ok (.isub, 1) := by decide +kernel
theorem d_X12_isGood_7 : decode cX12_isGood 7 = .ok (.if_icmp .lt 18, 3) := by decide +kernel
theorem d_X12_isGood_10 : decode cX12_isGood 10 = .ok (.aload_n 0, 1) := by decide +kernel
theorem d_X12_isGood_11 : decode cX12_isGood 11 = .ok (.iload_n 1, 1) := by decide +kernel
theorem d_X12_isGood_12 : decode cX12_isGood 12 = .ok (.aload_n 0, 1) := by decide +kernel
theorem d_X12_isGood_13 : decode cX12_isGood 13 = .ok (.getfield 13, 3) := by decide +kernel
theorem d_X12_isGood_16 : decode cX12_isGood 16 = .ok (.isub, 1) := by decide +kernel
theorem d_X12_isGood_17 : decode cX12_isGood 17 = .ok (.iconst 1, 1) := by decide +kernel
theorem d_X12_isGood_18 : decode cX12_isGood 18 = .ok (.iadd, 1) := by decide +kernel
theorem d_X12_isGood_19 : decode cX12_isGood 19 = .ok (.invokevirtual 196, 3) := by decide +kernel
theorem d_X12_isGood_22 : decode cX12_isGood 22 = .ok (.ifCond .eq 7, 3) := by decide +kernel
theorem d_X12_isGood_25 : decode cX12_isGood 25 = .ok (.iconst 1, 1) := by decide +kernel
theorem d_X12_isGood_26 : decode cX12_isGood 26 = .ok (.goto 4, 3) := by decide +kernel
theorem d_X12_isGood_29 : decode cX12_isGood 29 = .ok (.iconst 0, 1) := by decide +kernel
theorem d_X12_isGood_30 : decode cX12_isGood 30 = .ok (.istore_n 2, 1) := by decide +kernel
theorem d_X12_isGood_31 : decode cX12_isGood 31 = .ok (.iload_n 1, 1) := by decide +kernel
theorem d_X12_isGood_32 : decode cX12_isGood 32 = .ok (.aload_n 0, 1) := by decide +kernel
theorem d_X12_isGood_33 : decode cX12_isGood 33 = .ok (.getfield 97, 3) := by decide +kernel
theorem d_X12_isGood_36 : decode cX12_isGood 36 = .ok (.iconst 1, 1) := by decide +kernel
theorem d_X12_isGood_37 : decode cX12_isGood 37 = .ok (.isub, 1) := by decide +kernel
theorem d_X12_isGood_38 : decode cX12_isGood 38 = .ok (.if_icmp .ne 37, 3) := by decide +kernel
theorem d_X12_isGood_41 : decode cX12_isGood 41 = .ok (.iconst 0, 1) := by decide +kernel
theorem d_X12_isGood_42 : decode cX12_isGood 42 = .ok (.iload_n 1, 1) := by decide +kernel
theorem d_X12_isGood_43 : decode cX12_isGood 43 = .ok (.aload_n 0, 1) := by decide +kernel
theorem d_X12_isGood_44 : decode cX12_isGood 44 = .ok (.getfield 13, 3) := by decide +kernel
theorem d_X12_isGood_47 : decode cX12_isGood 47 = .ok (.isub, 1) := by decide +kernel
theorem d_X12_isGood_48 : decode cX12_isGood 48 = .ok (.iconst 2, 1) := by decide +kernel
theorem d_X12_isGood_49 : decode cX12_isGood 49 = .ok (.iadd, 1) := by decide +kernel
theorem d_X12_isGood_50 : decode cX12_isGood 50 = .ok (.invokestatic 199, 3) := by decide +kernel
theorem d_X12_isGood_53 : decode cX12_isGood 53 = .ok (.istore_n 3, 1) := by decide +kernel
theorem d_X12_isGood_54 : decode cX12_isGood 54 = .ok (.iload_n 3, 1) := by decide +kernel
theorem d_X12_isGood_55 : decode cX12_isGood 55 = .ok (.iload_n 1, 1) := by decide +kernel
theorem d_X12_isGood_56 : decode cX12_isGood 56 = .ok (.if_icmp .gt 19, 3) := by decide +kernel
theorem d_X12_isGood_59 : decode cX12_isGood 59 = .ok (.iload_n 2, 1) := by decide +kernel
theorem d_X12_isGood_60 : decode cX12_isGood 60 = .ok (.ifCond .eq 15, 3) := by decide +kernel
theorem d_X12_isGood_63 : decode cX12_isGood 63 = .ok (.aload_n 0, 1) := by decide +kernel
theorem d_X12_isGood_64 : decode cX12_isGood 64 = .ok (.iload_n 3, 1) := by decide +kernel
theorem d_X12_isGood_65 : decode cX12_isGood 65 = .ok (.invokevirtual 196, 3) := by decide +kernel
theorem d_X12_isGood_68 : decode cX12_isGood 68 = .ok (.istore_n 2, 1) := by decide +kernel
theorem d_X12_isGood_69 : decode cX12_isGood 69 = .ok (.iinc 3 1, 3) := by decide +kernel
theorem d_X12_isGood_72 : decode cX12_isGood 72 = .ok (.goto (-18), 3) := by decide +kernel
theorem d_X12_isGood_75 : decode cX12_isGood 75 = .ok (.iload_n 2, 1) := by decide +kernel
theorem d_X12_isGood_76 : decode cX12_isGood 76 = .ok (.ireturn, 1) := by decide +kernel
def f_X12_isGood_75 (F : Nat) (x2 : Int32) (M : sm_M) : Option (Int32 × sm_M) := sm_g (sm_nar .boolean x2) (some (x2, M))
set_option maxRecDepth 100000 in
set_option maxHeartbeats 4000000 in
theorem j_X12_isGood_75 {sk : List sm_Sh} (hx : sm_ext skM sk) (F : Nat) : ∀ (x2 : Int32) (M : sm_M) (r : Int32 × sm_M), f_X12_isGood_75 F x2 M = some r → sm_J (md_X12_isGood, 3, sk, .inl (some (.int r.1)), r.2) 75 [none, none, some (.int x2), none] [] M := by
  intro x2  M r h
  unfold f_X12_isGood_75 at h
  refine sm_iload_n (q := 76) d_X12_isGood_75 rfl rfl ?_
  obtain ⟨g1, h⟩ := sm_gt h
  obtain rfl := Option.some.inj h
  exact sm_iret d_X12_isGood_76 rfl (sm_nar_of g1).1 rfl rfl
def f_X12_isGood_54b (F : Nat) (kb54 : Int32 → Int32 → Int32 → sm_M → Option (Int32 × sm_M)) (x1 : Int32) (x2 : Int32) (x3 : Int32) (M : sm_M) : Option (Int32 × sm_M) := if x1 < x3 then (f_X12_isGood_75 F x2 M) else (if x2 = 0 then (f_X12_isGood_75 F x2 M) else ((f_X12_isNew F x3 M).bind fun q3 => kb54 x1 q3.1 (x3 + 1) q3.2))
set_option maxRecDepth 100000 in
set_option maxHeartbeats 4000000 in
theorem j_X12_isGood_54b {sk : List sm_Sh} (hx : sm_ext skM sk) (F : Nat) (kb54 : Int32 → Int32 → Int32 → sm_M → Option (Int32 × sm_M)) (hkb54 : ∀ (x1 : Int32) (x2 : Int32) (x3 : Int32) (M : sm_M) (r : Int32 × sm_M), kb54 x1 x2 x3 M = some r → sm_J (md_X12_isGood, 3, sk, .inl (some (.int r.1)), r.2) 54 [some (.ref 80), some (.int x1), some (.int x2), some (.int x3)] [] M) : ∀ (x1 : Int32) (x2 : Int32) (x3 : Int32) (M : sm_M) (r : Int32 × sm_M), f_X12_isGood_54b F kb54 x1 x2 x3 M = some r → sm_J (md_X12_isGood, 3, sk, .inl (some (.int r.1)), r.2) 54 [some (.ref 80), some (.int x1), some (.int x2), some (.int x3)] [] M := by
  intro x1 x2 x3  M r h
  unfold f_X12_isGood_54b at h
  refine sm_iload_n (q := 55) d_X12_isGood_54 rfl rfl ?_
  refine sm_iload_n (q := 56) d_X12_isGood_55 rfl rfl ?_
  refine sm_icmp_gt (q := 59) (t := 75) d_X12_isGood_56 rfl rfl (fun c1 => ?_) (fun c1 => ?_)
  · replace h := sm_it c1 h
    refine sm_fg [0, 1, 3] ?_
    exact j_X12_isGood_75 hx F x2 M _ h
  · replace h := sm_if c1 h
    refine sm_iload_n (q := 60) d_X12_isGood_59 rfl rfl ?_
    refine sm_if_eq (q := 63) (t := 75) d_X12_isGood_60 rfl rfl (fun c2 => ?_) (fun c2 => ?_)
    · replace h := sm_it c2 h
      refine sm_fg [0, 1, 3] ?_
      exact j_X12_isGood_75 hx F x2 M _ h
    · replace h := sm_if c2 h
      refine sm_aload_n (q := 64) d_X12_isGood_63 rfl rfl ?_
      refine sm_iload_n (q := 65) d_X12_isGood_64 rfl rfl ?_
      obtain ⟨q3, e3, h⟩ := sm_bd h
      refine sm_callV (q := 68) (d' := 2) [] [.int x3] d_X12_isGood_65 rfl lk_X12_196 (hx sx_80) rfl rfl rfl (Nat.le_of_ble_eq_true rfl) (Nat.le_of_ble_eq_true rfl) (c_X12_isNew hx F x3 M _ e3) (st9 := [.int q3.1]) rfl ?_
      refine sm_istore_n (q := 69) (lt := [some (.ref 80), some (.int x1), some (.int q3.1), some (.int x3)]) d_X12_isGood_68 rfl (Nat.le_of_ble_eq_true rfl) rfl rfl ?_
      refine sm_iinc (q := 72) (v := (x3 + 1)) (lt := [some (.ref 80), some (.int x1), some (.int q3.1), some (.int (x3 + 1))]) d_X12_isGood_69 rfl rfl (ii_1 _) (Nat.le_of_ble_eq_true rfl) rfl rfl ?_
      refine sm_goto (t := 54) d_X12_isGood_72 rfl ?_
      exact hkb54 x1 q3.1 (x3 + 1) q3.2 _ h
def f_X12_isGood_54 (F : Nat) (n : Nat) : Int32 → Int32 → Int32 → sm_M → Option (Int32 × sm_M) := match n with
 | 0 => fun _ _ _ _ => none
 | n + 1 => f_X12_isGood_54b F (f_X12_isGood_54 F n)
theorem j_X12_isGood_54 {sk : List sm_Sh} (hx : sm_ext skM sk) (F : Nat) : ∀ (n : Nat) (x1 : Int32) (x2 : Int32) (x3 : Int32) (M : sm_M) (r : Int32 × sm_M), f_X12_isGood_54 F n x1 x2 x3 M = some r → sm_J (md_X12_isGood, 3, sk, .inl (some (.int r.1)), r.2) 54 [some (.ref 80), some (.int x1), some (.int x2), some (.int x3)] [] M := by
  intro n
  induction n with
  | zero => intro x1 x2 x3  M r h; exact nomatch (show (none : Option (Int32 × sm_M)) = some r from h)
  | succ n ih => exact j_X12_isGood_54b hx F (f_X12_isGood_54 F n) ih
def f_X12_isGood_30 (F : Nat) (x1 : Int32) (y0 : Int32) (M : sm_M) : Option (Int32 × sm_M) := if x1 = ((M.1 80 5) - (1 : Int32)) then (f_X12_isGood_54 F F x1 y0 (if (0 : Int32) < ((x1 - (M.1 80 2)) + (2 : Int32)) then ((x1 - (M.1 80 2)) + (2 : Int32)) else (0 : Int32)) M) else (f_X12_isGood_75 F y0 M)
set_option maxRecDepth 100000 in
set_option maxHeartbeats 4000000 in
theorem j_X12_isGood_30 {sk : List sm_Sh} (hx : sm_ext skM sk) (F : Nat) : ∀ (x1 : Int32) (y0 : Int32) (M : sm_M) (r : Int32 × sm_M), f_X12_isGood_30 F x1 y0 M = some r → sm_J (md_X12_isGood, 3, sk, .inl (some (.int r.1)), r.2) 30 [some (.ref 80), some (.int x1), none, none] [.int y0] M := by
  intro x1 y0  M r h
  unfold f_X12_isGood_30 at h
  refine sm_istore_n (q := 31) (lt := [some (.ref 80), some (.int x1), some (.int y0), none]) d_X12_isGood_30 rfl (Nat.le_of_ble_eq_true rfl) rfl rfl ?_
  refine sm_iload_n (q := 32) d_X12_isGood_31 rfl rfl ?_
  refine sm_aload_n (q := 33) d_X12_isGood_32 rfl rfl ?_
  refine sm_geti (q := 36) d_X12_isGood_33 rfl fl_X12_97 (hx sx_80) rfl ?_
  refine sm_iconst (q := 37) d_X12_isGood_36 rfl ci_1 ?_
  refine sm_isub (q := 38) d_X12_isGood_37 rfl ?_
  refine sm_icmp_ne (q := 41) (t := 75) d_X12_isGood_38 rfl rfl (fun c1 => ?_) (fun c1 => ?_)
  · replace h := sm_if c1 h
    refine sm_fg [0, 1] ?_
    exact j_X12_isGood_75 hx F y0 M _ h
  · replace h := sm_it c1 h
    refine sm_iconst (q := 42) d_X12_isGood_41 rfl ci_0 ?_
    refine sm_iload_n (q := 43) d_X12_isGood_42 rfl rfl ?_
    refine sm_aload_n (q := 44) d_X12_isGood_43 rfl rfl ?_
    refine sm_geti (q := 47) d_X12_isGood_44 rfl fl_X12_13 (hx sx_80) rfl ?_
    refine sm_isub (q := 48) d_X12_isGood_47 rfl ?_
    refine sm_iconst (q := 49) d_X12_isGood_48 rfl ci_2 ?_
    refine sm_iadd (q := 50) d_X12_isGood_49 rfl ?_
    refine sm_mmax (q := 53) d_X12_isGood_50 rfl lk_X12_199 (Nat.le_of_ble_eq_true rfl) (Nat.le_of_ble_eq_true rfl) ?_
    refine sm_istore_n (q := 54) (lt := [some (.ref 80), some (.int x1), some (.int y0), some (.int (if (0 : Int32) < ((x1 - (M.1 80 2)) + (2 : Int32)) then ((x1 - (M.1 80 2)) + (2 : Int32)) else (0 : Int32)))]) d_X12_isGood_53 rfl (Nat.le_of_ble_eq_true rfl) rfl rfl ?_
    exact j_X12_isGood_54 hx F F x1 y0 (if (0 : Int32) < ((x1 - (M.1 80 2)) + (2 : Int32)) then ((x1 - (M.1 80 2)) + (2 : Int32)) else (0 : Int32)) M _ h
def f_X12_isGood_25 (F : Nat) (x1 : Int32) (M : sm_M) : Option (Int32 × sm_M) := f_X12_isGood_30 F x1 (1 : Int32) M
set_option maxRecDepth 100000 in
set_option maxHeartbeats 4000000 in
theorem j_X12_isGood_25 {sk : List sm_Sh} (hx : sm_ext skM sk) (F : Nat) : ∀ (x1 : Int32) (M : sm_M) (r : Int32 × sm_M), f_X12_isGood_25 F x1 M = some r → sm_J (md_X12_isGood, 3, sk, .inl (some (.int r.1)), r.2) 25 [some (.ref 80), some (.int x1), none, none] [] M := by
  intro x1  M r h
  unfold f_X12_isGood_25 at h
  refine sm_iconst (q := 26) d_X12_isGood_25 rfl ci_1 ?_
  refine sm_goto (t := 30) d_X12_isGood_26 rfl ?_
  exact j_X12_isGood_30 hx F x1 (1 : Int32) M _ h
def f_X12_isGood (F : Nat) (x1 : Int32) (M : sm_M) : Option (Int32 × sm_M) := if x1 < ((M.1 80 2) - (1 : Int32)) then (f_X12_isGood_25 F x1 M) else ((f_X12_isNew F ((x1 - (M.1 80 2)) + (1 : Int32)) M).bind fun q2 => if q2.1 = 0 then (f_X12_isGood_30 F x1 (0 : Int32) q2.2) else (f_X12_isGood_25 F x1 q2.2))
set_option maxRecDepth 100000 in
set_option maxHeartbeats 4000000 in
theorem j_X12_isGood {sk : List sm_Sh} (hx : sm_ext skM sk) (F : Nat) : ∀ (x1 : Int32) (M : sm_M) (r : Int32 × sm_M), f_X12_isGood F x1 M = some r → sm_J (md_X12_isGood, 3, sk, .inl (some (.int r.1)), r.2) 0 [some (.ref 80), some (.int x1), none, none] [] M := by
  intro x1  M r h
  unfold f_X12_isGood at h
  refine sm_iload_n (q := 1) d_X12_isGood_0 rfl rfl ?_
  refine sm_aload_n (q := 2) d_X12_isGood_1 rfl rfl ?_
  refine sm_geti (q := 5) d_X12_isGood_2 rfl fl_X12_13 (hx sx_80) rfl ?_
  refine sm_iconst (q := 6) d_X12_isGood_5 rfl ci_1 ?_
  refine sm_isub (q := 7) d_X12_isGood_6 rfl ?_
  refine sm_icmp_lt (q := 10) (t := 25) d_X12_isGood_7 rfl rfl (fun c1 => ?_) (fun c1 => ?_)
  · replace h := sm_it c1 h
    exact j_X12_isGood_25 hx F x1 M _ h
  · replace h := sm_if c1 h
    refine sm_aload_n (q := 11) d_X12_isGood_10 rfl rfl ?_
    refine sm_iload_n (q := 12) d_X12_isGood_11 rfl rfl ?_
    refine sm_aload_n (q := 13) d_X12_isGood_12 rfl rfl ?_
    refine sm_geti (q := 16) d_X12_isGood_13 rfl fl_X12_13 (hx sx_80) rfl ?_
    refine sm_isub (q := 17) d_X12_isGood_16 rfl ?_
    refine sm_iconst (q := 18) d_X12_isGood_17 rfl ci_1 ?_
    refine sm_iadd (q := 19) d_X12_isGood_18 rfl ?_
    obtain ⟨q2, e2, h⟩ := sm_bd h
    refine sm_callV (q := 22) (d' := 2) [] [.int ((x1 - (M.1 80 2)) + (1 : Int32))] d_X12_isGood_19 rfl lk_X12_196 (hx sx_80) rfl rfl rfl (Nat.le_of_ble_eq_true rfl) (Nat.le_of_ble_eq_true rfl) (c_X12_isNew hx F ((x1 - (M.1 80 2)) + (1 : Int32)) M _ e2) (st9 := [.int q2.1]) rfl ?_
    refine sm_if_eq (q := 25) (t := 29) d_X12_isGood_22 rfl rfl (fun c3 => ?_) (fun c3 => ?_)
    · replace h := sm_it c3 h
      refine sm_iconst (q := 30) d_X12_isGood_29 rfl ci_0 ?_
      exact j_X12_isGood_30 hx F x1 (0 : Int32) q2.2 _ h
    · replace h := sm_if c3 h
      exact j_X12_isGood_25 hx F x1 q2.2 _ h
theorem c_X12_isGood {sk : List sm_Sh} (hx : sm_ext skM sk) (F : Nat) (x1 : Int32) (M : sm_M) (r : Int32 × sm_M) (h : f_X12_isGood F x1 M = some r) : sm_Ct yX12_isGood md_X12_isGood 3 sk [.ref 80, .int x1] M (.inl (some (.int r.1))) r.2 := sm_enter 2 pn_X12 rfl (Nat.le_of_ble_eq_true rfl) rfl (j_X12_isGood hx F x1 M r h)
