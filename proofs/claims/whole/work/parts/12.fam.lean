/-! ===== methods, decompiled: 12.fam ===== -/
/-! UniversalCycles$Family.sizeOf(III)I -/
theorem d_X2_sizeOf_0 : decode cX2_sizeOf 0 = .ok (.iconst 1, 1) := by decide +kernel
theorem d_X2_sizeOf_1 : decode cX2_sizeOf 1 = .ok (.istore_n 3, 1) := by decide +kernel
theorem d_X2_sizeOf_2 : decode cX2_sizeOf 2 = .ok (.iconst 0, 1) := by decide +kernel
theorem d_X2_sizeOf_3 : decode cX2_sizeOf 3 = .ok (.istore 4, 2) := by decide +kernel
theorem d_X2_sizeOf_5 : decode cX2_sizeOf 5 = .ok (.iload 4, 2) := by decide +kernel
theorem d_X2_sizeOf_7 : decode cX2_sizeOf 7 = .ok (.iload_n 1, 1) := by decide +kernel
theorem d_X2_sizeOf_8 : decode cX2_sizeOf 8 = .ok (.if_icmp .ge 62, 3) := by decide +kernel
theorem d_X2_sizeOf_11 : decode cX2_sizeOf 11 = .ok (.iload_n 0, 1) := by decide +kernel
theorem d_X2_sizeOf_12 : decode cX2_sizeOf 12 = .ok (.ifCond .ne 10, 3) := by decide +kernel
theorem d_X2_sizeOf_15 : decode cX2_sizeOf 15 = .ok (.iload_n 3, 1) := by decide +kernel
theorem d_X2_sizeOf_16 : decode cX2_sizeOf 16 = .ok (.iload_n 2, 1) := by decide +kernel
theorem d_X2_sizeOf_17 : decode cX2_sizeOf 17 = .ok (.imul, 1) := by decide +kernel
theorem d_X2_sizeOf_18 : decode cX2_sizeOf 18 = .ok (.istore_n 3, 1) := by decide +kernel
theorem d_X2_sizeOf_19 : decode cX2_sizeOf 19 = .ok (.goto 45, 3) := by decide +kernel
theorem d_X2_sizeOf_22 : decode cX2_sizeOf 22 = .ok (.iload_n 0, 1) := by decide +kernel
theorem d_X2_sizeOf_23 : decode cX2_sizeOf 23 = .ok (.iconst 1, 1) := by decide +kernel
theorem d_X2_sizeOf_24 : decode cX2_sizeOf 24 = .ok (.if_icmp .ne 13, 3) := by decide +kernel
theorem d_X2_sizeOf_27 : decode cX2_sizeOf 27 = .ok (.iload_n 3, 1) := by decide +kernel
theorem d_X2_sizeOf_28 : decode cX2_sizeOf 28 = .ok (.iload 4, 2) := by decide +kernel
theorem d_X2_sizeOf_30 : decode cX2_sizeOf 30 = .ok (.iconst 1, 1) := by decide +kernel
theorem d_X2_sizeOf_31 : decode cX2_sizeOf 31 = .ok (.iadd, 1) := by decide +kernel
theorem d_X2_sizeOf_32 : decode cX2_sizeOf 32 = .ok (.imul, 1) := by decide +kernel
theorem d_X2_sizeOf_33 : decode cX2_sizeOf 33 = .ok (.istore_n 3, 1) := by decide +kernel
theorem d_X2_sizeOf_34 : decode cX2_sizeOf 34 = .ok (.goto 30, 3) := by decide +kernel
theorem d_X2_sizeOf_37 : decode cX2_sizeOf 37 = .ok (.iload_n 0, 1) := by decide +kernel
theorem d_X2_sizeOf_38 : decode cX2_sizeOf 38 = .ok (.iconst 2, 1) := by decide +kernel
theorem d_X2_sizeOf_39 : decode cX2_sizeOf 39 = .ok (.if_icmp .ne 13, 3) := by decide +kernel
theorem d_X2_sizeOf_42 : decode cX2_sizeOf 42 = .ok (.iload_n 3, 1) := by decide +kernel
theorem d_X2_sizeOf_43 : decode cX2_sizeOf 43 = .ok (.iload_n 2, 1) := by decide +kernel
theorem d_X2_sizeOf_44 : decode cX2_sizeOf 44 = .ok (.iload 4, 2) := by decide +kernel
theorem d_X2_sizeOf_46 : decode cX2_sizeOf 46 = .ok (.isub, 1) := by decide +kernel
theorem d_X2_sizeOf_47 : decode cX2_sizeOf 47 = .ok (.imul, 1) := by decide +kernel
theorem d_X2_sizeOf_48 : decode cX2_sizeOf 48 = .ok (.istore_n 3, 1) := by decide +kernel
theorem d_X2_sizeOf_49 : decode cX2_sizeOf 49 = .ok (.goto 15, 3) := by decide +kernel
theorem d_X2_sizeOf_52 : decode cX2_sizeOf 52 = .ok (.iload_n 3, 1) := by decide +kernel
theorem d_X2_sizeOf_53 : decode cX2_sizeOf 53 = .ok (.iload_n 2, 1) := by decide +kernel
theorem d_X2_sizeOf_54 : decode cX2_sizeOf 54 = .ok (.iload 4, 2) := by decide +kernel
theorem d_X2_sizeOf_56 : decode cX2_sizeOf 56 = .ok (.isub, 1) := by decide +kernel
theorem d_X2_sizeOf_57 : decode cX2_sizeOf 57 = .ok (.imul, 1) := by decide +kernel
theorem d_X2_sizeOf_58 : decode cX2_sizeOf 58 = .ok (.iload 4, 2) := by decide +kernel
theorem d_X2_sizeOf_60 : decode cX2_sizeOf 60 = .ok (.iconst 1, 1) := by decide +kernel
theorem d_X2_sizeOf_61 : decode cX2_sizeOf 61 = .ok (.iadd, 1) := by decide +kernel
theorem d_X2_sizeOf_62 : decode cX2_sizeOf 62 = .ok (.idiv, 1) := by decide +kernel
theorem d_X2_sizeOf_63 : decode cX2_sizeOf 63 = .ok (.istore_n 3, 1) := by decide +kernel
theorem d_X2_sizeOf_64 : decode cX2_sizeOf 64 = .ok (.iinc 4 1, 3) := by decide +kernel
theorem d_X2_sizeOf_67 : decode cX2_sizeOf 67 = .ok (.goto (-62), 3) := by decide +kernel
theorem d_X2_sizeOf_70 : decode cX2_sizeOf 70 = .ok (.iload_n 3, 1) := by decide +kernel
theorem d_X2_sizeOf_71 : decode cX2_sizeOf 71 = .ok (.ireturn, 1) := by decide +kernel
def f_X2_sizeOf_64 (F : Nat) (kb5 : Int32 → Int32 → Int32 → Int32 → Int32 → sm_M → Option (Int32)) (x0 : Int32) (x1 : Int32) (x2 : Int32) (x3 : Int32) (x4 : Int32) (M : sm_M) : Option (Int32) := kb5 x0 x1 x2 x3 (x4 + 1) M
set_option maxRecDepth 100000 in
set_option maxHeartbeats 4000000 in
theorem j_X2_sizeOf_64 {sk : List sm_Sh} (hx : sm_ext skX sk) (F : Nat) (kb5 : Int32 → Int32 → Int32 → Int32 → Int32 → sm_M → Option (Int32)) (hkb5 : ∀ (x0 : Int32) (x1 : Int32) (x2 : Int32) (x3 : Int32) (x4 : Int32) (M : sm_M) (r : Int32), kb5 x0 x1 x2 x3 x4 M = some r → sm_J (md_X2_sizeOf, 0, sk, .inl (some (.int r)), M) 5 [some (.int x0), some (.int x1), some (.int x2), some (.int x3), some (.int x4)] [] M) : ∀ (x0 : Int32) (x1 : Int32) (x2 : Int32) (x3 : Int32) (x4 : Int32) (M : sm_M) (r : Int32), f_X2_sizeOf_64 F kb5 x0 x1 x2 x3 x4 M = some r → sm_J (md_X2_sizeOf, 0, sk, .inl (some (.int r)), M) 64 [some (.int x0), some (.int x1), some (.int x2), some (.int x3), some (.int x4)] [] M := by
  intro x0 x1 x2 x3 x4  M r h
  unfold f_X2_sizeOf_64 at h
  refine sm_iinc (q := 67) (v := (x4 + 1)) (lt := [some (.int x0), some (.int x1), some (.int x2), some (.int x3), some (.int (x4 + 1))]) d_X2_sizeOf_64 rfl rfl (ii_1 _) (Nat.le_of_ble_eq_true rfl) rfl rfl ?_
  refine sm_goto (t := 5) d_X2_sizeOf_67 rfl ?_
  exact hkb5 x0 x1 x2 x3 (x4 + 1) M _ h
def f_X2_sizeOf_5b (F : Nat) (kb5 : Int32 → Int32 → Int32 → Int32 → Int32 → sm_M → Option (Int32)) (x0 : Int32) (x1 : Int32) (x2 : Int32) (x3 : Int32) (x4 : Int32) (M : sm_M) : Option (Int32) := if x1 ≤ x4 then (some x3) else (if x0 = 0 then (f_X2_sizeOf_64 F kb5 x0 x1 x2 (x3 * x2) x4 M) else (if x0 = (1 : Int32) then (f_X2_sizeOf_64 F kb5 x0 x1 x2 (x3 * (x4 + (1 : Int32))) x4 M) else (if x0 = (2 : Int32) then (f_X2_sizeOf_64 F kb5 x0 x1 x2 (x3 * (x2 - x4)) x4 M) else (sm_g (sm_nz (x4 + (1 : Int32))) (f_X2_sizeOf_64 F kb5 x0 x1 x2 ((x3 * (x2 - x4)) / (x4 + (1 : Int32))) x4 M)))))
set_option maxRecDepth 100000 in
set_option maxHeartbeats 4000000 in
theorem j_X2_sizeOf_5b {sk : List sm_Sh} (hx : sm_ext skX sk) (F : Nat) (kb5 : Int32 → Int32 → Int32 → Int32 → Int32 → sm_M → Option (Int32)) (hkb5 : ∀ (x0 : Int32) (x1 : Int32) (x2 : Int32) (x3 : Int32) (x4 : Int32) (M : sm_M) (r : Int32), kb5 x0 x1 x2 x3 x4 M = some r → sm_J (md_X2_sizeOf, 0, sk, .inl (some (.int r)), M) 5 [some (.int x0), some (.int x1), some (.int x2), some (.int x3), some (.int x4)] [] M) : ∀ (x0 : Int32) (x1 : Int32) (x2 : Int32) (x3 : Int32) (x4 : Int32) (M : sm_M) (r : Int32), f_X2_sizeOf_5b F kb5 x0 x1 x2 x3 x4 M = some r → sm_J (md_X2_sizeOf, 0, sk, .inl (some (.int r)), M) 5 [some (.int x0), some (.int x1), some (.int x2), some (.int x3), some (.int x4)] [] M := by
  intro x0 x1 x2 x3 x4  M r h
  unfold f_X2_sizeOf_5b at h
  refine sm_iload (q := 7) d_X2_sizeOf_5 rfl rfl ?_
  refine sm_iload_n (q := 8) d_X2_sizeOf_7 rfl rfl ?_
  refine sm_icmp_ge (q := 11) (t := 70) d_X2_sizeOf_8 rfl rfl (fun c1 => ?_) (fun c1 => ?_)
  · replace h := sm_it c1 h
    refine sm_iload_n (q := 71) d_X2_sizeOf_70 rfl rfl ?_
    obtain rfl := Option.some.inj h
    exact sm_iret d_X2_sizeOf_71 rfl rfl rfl rfl
  · replace h := sm_if c1 h
    refine sm_iload_n (q := 12) d_X2_sizeOf_11 rfl rfl ?_
    refine sm_if_ne (q := 15) (t := 22) d_X2_sizeOf_12 rfl rfl (fun c2 => ?_) (fun c2 => ?_)
    · replace h := sm_if c2 h
      refine sm_iload_n (q := 23) d_X2_sizeOf_22 rfl rfl ?_
      refine sm_iconst (q := 24) d_X2_sizeOf_23 rfl ci_1 ?_
      refine sm_icmp_ne (q := 27) (t := 37) d_X2_sizeOf_24 rfl rfl (fun c3 => ?_) (fun c3 => ?_)
      · replace h := sm_if c3 h
        refine sm_iload_n (q := 38) d_X2_sizeOf_37 rfl rfl ?_
        refine sm_iconst (q := 39) d_X2_sizeOf_38 rfl ci_2 ?_
        refine sm_icmp_ne (q := 42) (t := 52) d_X2_sizeOf_39 rfl rfl (fun c4 => ?_) (fun c4 => ?_)
        · replace h := sm_if c4 h
          refine sm_iload_n (q := 53) d_X2_sizeOf_52 rfl rfl ?_
          refine sm_iload_n (q := 54) d_X2_sizeOf_53 rfl rfl ?_
          refine sm_iload (q := 56) d_X2_sizeOf_54 rfl rfl ?_
          refine sm_isub (q := 57) d_X2_sizeOf_56 rfl ?_
          refine sm_imul (q := 58) d_X2_sizeOf_57 rfl ?_
          refine sm_iload (q := 60) d_X2_sizeOf_58 rfl rfl ?_
          refine sm_iconst (q := 61) d_X2_sizeOf_60 rfl ci_1 ?_
          refine sm_iadd (q := 62) d_X2_sizeOf_61 rfl ?_
          obtain ⟨g5, h⟩ := sm_gt h
          refine sm_idiv (q := 63) d_X2_sizeOf_62 rfl (sm_nz_of g5) ?_
          refine sm_istore_n (q := 64) (lt := [some (.int x0), some (.int x1), some (.int x2), some (.int ((x3 * (x2 - x4)) / (x4 + (1 : Int32)))), some (.int x4)]) d_X2_sizeOf_63 rfl (Nat.le_of_ble_eq_true rfl) rfl rfl ?_
          exact j_X2_sizeOf_64 hx F kb5 hkb5 x0 x1 x2 ((x3 * (x2 - x4)) / (x4 + (1 : Int32))) x4 M _ h
        · replace h := sm_it c4 h
          refine sm_iload_n (q := 43) d_X2_sizeOf_42 rfl rfl ?_
          refine sm_iload_n (q := 44) d_X2_sizeOf_43 rfl rfl ?_
          refine sm_iload (q := 46) d_X2_sizeOf_44 rfl rfl ?_
          refine sm_isub (q := 47) d_X2_sizeOf_46 rfl ?_
          refine sm_imul (q := 48) d_X2_sizeOf_47 rfl ?_
          refine sm_istore_n (q := 49) (lt := [some (.int x0), some (.int x1), some (.int x2), some (.int (x3 * (x2 - x4))), some (.int x4)]) d_X2_sizeOf_48 rfl (Nat.le_of_ble_eq_true rfl) rfl rfl ?_
          refine sm_goto (t := 64) d_X2_sizeOf_49 rfl ?_
          exact j_X2_sizeOf_64 hx F kb5 hkb5 x0 x1 x2 (x3 * (x2 - x4)) x4 M _ h
      · replace h := sm_it c3 h
        refine sm_iload_n (q := 28) d_X2_sizeOf_27 rfl rfl ?_
        refine sm_iload (q := 30) d_X2_sizeOf_28 rfl rfl ?_
        refine sm_iconst (q := 31) d_X2_sizeOf_30 rfl ci_1 ?_
        refine sm_iadd (q := 32) d_X2_sizeOf_31 rfl ?_
        refine sm_imul (q := 33) d_X2_sizeOf_32 rfl ?_
        refine sm_istore_n (q := 34) (lt := [some (.int x0), some (.int x1), some (.int x2), some (.int (x3 * (x4 + (1 : Int32)))), some (.int x4)]) d_X2_sizeOf_33 rfl (Nat.le_of_ble_eq_true rfl) rfl rfl ?_
        refine sm_goto (t := 64) d_X2_sizeOf_34 rfl ?_
        exact j_X2_sizeOf_64 hx F kb5 hkb5 x0 x1 x2 (x3 * (x4 + (1 : Int32))) x4 M _ h
    · replace h := sm_it c2 h
      refine sm_iload_n (q := 16) d_X2_sizeOf_15 rfl rfl ?_
      refine sm_iload_n (q := 17) d_X2_sizeOf_16 rfl rfl ?_
      refine sm_imul (q := 18) d_X2_sizeOf_17 rfl ?_
      refine sm_istore_n (q := 19) (lt := [some (.int x0), some (.int x1), some (.int x2), some (.int (x3 * x2)), some (.int x4)]) d_X2_sizeOf_18 rfl (Nat.le_of_ble_eq_true rfl) rfl rfl ?_
      refine sm_goto (t := 64) d_X2_sizeOf_19 rfl ?_
      exact j_X2_sizeOf_64 hx F kb5 hkb5 x0 x1 x2 (x3 * x2) x4 M _ h
def f_X2_sizeOf_5 (F : Nat) (n : Nat) : Int32 → Int32 → Int32 → Int32 → Int32 → sm_M → Option (Int32) := match n with
 | 0 => fun _ _ _ _ _ _ => none
 | n + 1 => f_X2_sizeOf_5b F (f_X2_sizeOf_5 F n)
theorem j_X2_sizeOf_5 {sk : List sm_Sh} (hx : sm_ext skX sk) (F : Nat) : ∀ (n : Nat) (x0 : Int32) (x1 : Int32) (x2 : Int32) (x3 : Int32) (x4 : Int32) (M : sm_M) (r : Int32), f_X2_sizeOf_5 F n x0 x1 x2 x3 x4 M = some r → sm_J (md_X2_sizeOf, 0, sk, .inl (some (.int r)), M) 5 [some (.int x0), some (.int x1), some (.int x2), some (.int x3), some (.int x4)] [] M := by
  intro n
  induction n with
  | zero => intro x0 x1 x2 x3 x4  M r h; exact nomatch (show (none : Option (Int32)) = some r from h)
  | succ n ih => exact j_X2_sizeOf_5b hx F (f_X2_sizeOf_5 F n) ih
def f_X2_sizeOf (F : Nat) (x0 : Int32) (x1 : Int32) (x2 : Int32) (M : sm_M) : Option (Int32) := f_X2_sizeOf_5 F F x0 x1 x2 (1 : Int32) (0 : Int32) M
set_option maxRecDepth 100000 in
set_option maxHeartbeats 4000000 in
theorem j_X2_sizeOf {sk : List sm_Sh} (hx : sm_ext skX sk) (F : Nat) : ∀ (x0 : Int32) (x1 : Int32) (x2 : Int32) (M : sm_M) (r : Int32), f_X2_sizeOf F x0 x1 x2 M = some r → sm_J (md_X2_sizeOf, 0, sk, .inl (some (.int r)), M) 0 [some (.int x0), some (.int x1), some (.int x2), none, none] [] M := by
  intro x0 x1 x2  M r h
  unfold f_X2_sizeOf at h
  refine sm_iconst (q := 1) d_X2_sizeOf_0 rfl ci_1 ?_
  refine sm_istore_n (q := 2) (lt := [some (.int x0), some (.int x1), some (.int x2), some (.int (1 : Int32)), none]) d_X2_sizeOf_1 rfl (Nat.le_of_ble_eq_true rfl) rfl rfl ?_
  refine sm_iconst (q := 3) d_X2_sizeOf_2 rfl ci_0 ?_
  refine sm_istore (q := 5) (lt := [some (.int x0), some (.int x1), some (.int x2), some (.int (1 : Int32)), some (.int (0 : Int32))]) d_X2_sizeOf_3 rfl (Nat.le_of_ble_eq_true rfl) rfl rfl ?_
  exact j_X2_sizeOf_5 hx F F x0 x1 x2 (1 : Int32) (0 : Int32) M _ h
theorem c_X2_sizeOf {sk : List sm_Sh} (hx : sm_ext skX sk) (F : Nat) (x0 : Int32) (x1 : Int32) (x2 : Int32) (M : sm_M) (r : Int32) (h : f_X2_sizeOf F x0 x1 x2 M = some r) : sm_Ct yX2_sizeOf md_X2_sizeOf 0 sk [.int x0, .int x1, .int x2] M (.inl (some (.int r))) M := sm_enter 2 pn_X2 rfl (Nat.le_of_ble_eq_true rfl) rfl (j_X2_sizeOf hx F x0 x1 x2 M r h)
/-! UniversalCycles$Family.isPossible(III)Z -/
theorem d_X2_isPossible_0 : decode cX2_isPossible 0 = .ok (.iload_n 0, 1) := by decide +kernel
theorem d_X2_isPossible_1 : decode cX2_isPossible 1 = .ok (.ifCond .lt 18, 3) := by decide +kernel
theorem d_X2_isPossible_4 : decode cX2_isPossible 4 = .ok (.iload_n 0, 1) := by decide +kernel
theorem d_X2_isPossible_5 : decode cX2_isPossible 5 = .ok (.iconst 3, 1) := by decide +kernel
theorem d_X2_isPossible_6 : decode cX2_isPossible 6 = .ok (.if_icmp .gt 13, 3) := by decide +kernel
theorem d_X2_isPossible_9 : decode cX2_isPossible 9 = .ok (.iload_n 1, 1) := by decide +kernel
theorem d_X2_isPossible_10 : decode cX2_isPossible 10 = .ok (.iconst 1, 1) := by decide +kernel
theorem d_X2_isPossible_11 : decode cX2_isPossible 11 = .ok (.if_icmp .lt 8, 3) := by decide +kernel
theorem d_X2_isPossible_14 : decode cX2_isPossible 14 = .ok (.iload_n 1, 1) := by decide +kernel
theorem d_X2_isPossible_15 : decode cX2_isPossible 15 = .ok (.iconst 5, 1) := by decide +kernel
theorem d_X2_isPossible_16 : decode cX2_isPossible 16 = .ok (.if_icmp .le 5, 3) := by decide +kernel
theorem d_X2_isPossible_19 : decode cX2_isPossible 19 = .ok (.iconst 0, 1) := by decide +kernel
theorem d_X2_isPossible_20 : decode cX2_isPossible 20 = .ok (.ireturn, 1) := by decide +kernel
theorem d_X2_isPossible_21 : decode cX2_isPossible 21 = .ok (.iload_n 2, 1) := by decide +kernel
theorem d_X2_isPossible_22 : decode cX2_isPossible 22 = .ok (.iconst 1, 1) := by decide +kernel
theorem d_X2_isPossible_23 : decode cX2_isPossible 23 = .ok (.if_icmp .lt 18, 3) := by decide +kernel
theorem d_X2_isPossible_26 : decode cX2_isPossible 26 = .ok (.iload_n 2, 1) := by decide +kernel
theorem d_X2_isPossible_27 : decode cX2_isPossible 27 = .ok (.bipush 8, 2) := by decide +kernel
theorem d_X2_isPossible_29 : decode cX2_isPossible 29 = .ok (.if_icmp .gt 12, 3) := by decide +kernel
theorem d_X2_isPossible_32 : decode cX2_isPossible 32 = .ok (.iload_n 0, 1) := by decide +kernel
theorem d_X2_isPossible_33 : decode cX2_isPossible 33 = .ok (.ifCond .eq 10, 3) := by decide +kernel
theorem d_X2_isPossible_36 : decode cX2_isPossible 36 = .ok (.iload_n 1, 1) := by decide +kernel
theorem d_X2_isPossible_37 : decode cX2_isPossible 37 = .ok (.iload_n 2, 1) := by decide +kernel
theorem d_X2_isPossible_38 : decode cX2_isPossible 38 = .ok (.if_icmp .le 5, 3) := by decide +kernel
theorem d_X2_isPossible_41 : decode cX2_isPossible 41 = .ok (.iconst 0, 1) := by decide +kernel
theorem d_X2_isPossible_42 : decode cX2_isPossible 42 = .ok (.ireturn, 1) := by decide +kernel
theorem d_X2_isPossible_43 : decode cX2_isPossible 43 = .ok (.iload_n 0, 1) := by decide +kernel
theorem d_X2_isPossible_44 : decode cX2_isPossible 44 = .ok (.iload_n 1, 1) := by decide +kernel
theorem d_X2_isPossible_45 : decode cX2_isPossible 45 = .ok (.iload_n 2, 1) := by decide +kernel
theorem d_X2_isPossible_46 : decode cX2_isPossible 46 = .ok (.invokestatic 18, 3) := by decide +kernel
theorem d_X2_isPossible_49 : decode cX2_isPossible 49 = .ok (.sipush 200, 3) := by decide +kernel
theorem d_X2_isPossible_52 : decode cX2_isPossible 52 = .ok (.if_icmp .gt 7, 3) := by decide +kernel
theorem d_X2_isPossible_55 : decode cX2_isPossible 55 = .ok (.iconst 1, 1) := by decide +kernel
theorem d_X2_isPossible_56 : decode cX2_isPossible 56 = .ok (.goto 4, 3) := by decide +kernel
theorem d_X2_isPossible_59 : decode cX2_isPossible 59 = .ok (.iconst 0, 1) := by decide +kernel
theorem d_X2_isPossible_60 : decode cX2_isPossible 60 = .ok (.ireturn, 1) := by decide +kernel
def f_X2_isPossible_19 (F : Nat) (M : sm_M) : Option (Int32) := some (0 : Int32)
set_option maxRecDepth 100000 in
set_option maxHeartbeats 4000000 in
theorem j_X2_isPossible_19 {sk : List sm_Sh} (hx : sm_ext skX sk) (F : Nat) : ∀ (M : sm_M) (r : Int32), f_X2_isPossible_19 F M = some r → sm_J (md_X2_isPossible, 1, sk, .inl (some (.int r)), M) 19 [none, none, none] [] M := by
  intro   M r h
  unfold f_X2_isPossible_19 at h
  refine sm_iconst (q := 20) d_X2_isPossible_19 rfl ci_0 ?_
  obtain rfl := Option.some.inj h
  exact sm_iret d_X2_isPossible_20 rfl (by decide) rfl rfl
def f_X2_isPossible_41 (F : Nat) (M : sm_M) : Option (Int32) := some (0 : Int32)
set_option maxRecDepth 100000 in
set_option maxHeartbeats 4000000 in
theorem j_X2_isPossible_41 {sk : List sm_Sh} (hx : sm_ext skX sk) (F : Nat) : ∀ (M : sm_M) (r : Int32), f_X2_isPossible_41 F M = some r → sm_J (md_X2_isPossible, 1, sk, .inl (some (.int r)), M) 41 [none, none, none] [] M := by
  intro   M r h
  unfold f_X2_isPossible_41 at h
  refine sm_iconst (q := 42) d_X2_isPossible_41 rfl ci_0 ?_
  obtain rfl := Option.some.inj h
  exact sm_iret d_X2_isPossible_42 rfl (by decide) rfl rfl
def f_X2_isPossible_60 (F : Nat) (y0 : Int32) (M : sm_M) : Option (Int32) := sm_g (sm_nar .boolean y0) (some y0)
set_option maxRecDepth 100000 in
set_option maxHeartbeats 4000000 in
theorem j_X2_isPossible_60 {sk : List sm_Sh} (hx : sm_ext skX sk) (F : Nat) : ∀ (y0 : Int32) (M : sm_M) (r : Int32), f_X2_isPossible_60 F y0 M = some r → sm_J (md_X2_isPossible, 1, sk, .inl (some (.int r)), M) 60 [none, none, none] [.int y0] M := by
  intro y0  M r h
  unfold f_X2_isPossible_60 at h
  obtain ⟨g1, h⟩ := sm_gt h
  obtain rfl := Option.some.inj h
  exact sm_iret d_X2_isPossible_60 rfl (sm_nar_of g1).1 rfl rfl
def f_X2_isPossible_43 (F : Nat) (x0 : Int32) (x1 : Int32) (x2 : Int32) (M : sm_M) : Option (Int32) := (f_X2_sizeOf F x0 x1 x2 M).bind fun q1 => if (200 : Int32) < q1 then (f_X2_isPossible_60 F (0 : Int32) M) else (f_X2_isPossible_60 F (1 : Int32) M)
set_option maxRecDepth 100000 in
set_option maxHeartbeats 4000000 in
theorem j_X2_isPossible_43 {sk : List sm_Sh} (hx : sm_ext skX sk) (F : Nat) : ∀ (x0 : Int32) (x1 : Int32) (x2 : Int32) (M : sm_M) (r : Int32), f_X2_isPossible_43 F x0 x1 x2 M = some r → sm_J (md_X2_isPossible, 1, sk, .inl (some (.int r)), M) 43 [some (.int x0), some (.int x1), some (.int x2)] [] M := by
  intro x0 x1 x2  M r h
  unfold f_X2_isPossible_43 at h
  refine sm_iload_n (q := 44) d_X2_isPossible_43 rfl rfl ?_
  refine sm_iload_n (q := 45) d_X2_isPossible_44 rfl rfl ?_
  refine sm_iload_n (q := 46) d_X2_isPossible_45 rfl rfl ?_
  obtain ⟨q1, e1, h⟩ := sm_bd h
  refine sm_callS (q := 49) (d' := 0) [] [.int x0, .int x1, .int x2] d_X2_isPossible_46 rfl lk_X2_18 rfl (Nat.le_of_ble_eq_true rfl) (Nat.le_of_ble_eq_true rfl) (c_X2_sizeOf hx F x0 x1 x2 M _ e1) (st9 := [.int q1]) rfl ?_
  refine sm_sipush (q := 52) d_X2_isPossible_49 rfl cs_200 ?_
  refine sm_icmp_gt (q := 55) (t := 59) d_X2_isPossible_52 rfl rfl (fun c2 => ?_) (fun c2 => ?_)
  · replace h := sm_it c2 h
    refine sm_iconst (q := 60) d_X2_isPossible_59 rfl ci_0 ?_
    refine sm_fg [0, 1, 2] ?_
    exact j_X2_isPossible_60 hx F (0 : Int32) M _ h
  · replace h := sm_if c2 h
    refine sm_iconst (q := 56) d_X2_isPossible_55 rfl ci_1 ?_
    refine sm_goto (t := 60) d_X2_isPossible_56 rfl ?_
    refine sm_fg [0, 1, 2] ?_
    exact j_X2_isPossible_60 hx F (1 : Int32) M _ h
def f_X2_isPossible (F : Nat) (x0 : Int32) (x1 : Int32) (x2 : Int32) (M : sm_M) : Option (Int32) := if x0 < 0 then (f_X2_isPossible_19 F M) else (if (3 : Int32) < x0 then (f_X2_isPossible_19 F M) else (if x1 < (1 : Int32) then (f_X2_isPossible_19 F M) else (if x1 ≤ (5 : Int32) then (if x2 < (1 : Int32) then (f_X2_isPossible_41 F M) else (if (8 : Int32) < x2 then (f_X2_isPossible_41 F M) else (if x0 = 0 then (f_X2_isPossible_43 F x0 x1 x2 M) else (if x1 ≤ x2 then (f_X2_isPossible_43 F x0 x1 x2 M) else (f_X2_isPossible_41 F M))))) else (f_X2_isPossible_19 F M))))
set_option maxRecDepth 100000 in
set_option maxHeartbeats 4000000 in
theorem j_X2_isPossible {sk : List sm_Sh} (hx : sm_ext skX sk) (F : Nat) : ∀ (x0 : Int32) (x1 : Int32) (x2 : Int32) (M : sm_M) (r : Int32), f_X2_isPossible F x0 x1 x2 M = some r → sm_J (md_X2_isPossible, 1, sk, .inl (some (.int r)), M) 0 [some (.int x0), some (.int x1), some (.int x2)] [] M := by
  intro x0 x1 x2  M r h
  unfold f_X2_isPossible at h
  refine sm_iload_n (q := 1) d_X2_isPossible_0 rfl rfl ?_
  refine sm_if_lt (q := 4) (t := 19) d_X2_isPossible_1 rfl rfl (fun c1 => ?_) (fun c1 => ?_)
  · replace h := sm_it c1 h
    refine sm_fg [0, 1, 2] ?_
    exact j_X2_isPossible_19 hx F M _ h
  · replace h := sm_if c1 h
    refine sm_iload_n (q := 5) d_X2_isPossible_4 rfl rfl ?_
    refine sm_iconst (q := 6) d_X2_isPossible_5 rfl ci_3 ?_
    refine sm_icmp_gt (q := 9) (t := 19) d_X2_isPossible_6 rfl rfl (fun c2 => ?_) (fun c2 => ?_)
    · replace h := sm_it c2 h
      refine sm_fg [0, 1, 2] ?_
      exact j_X2_isPossible_19 hx F M _ h
    · replace h := sm_if c2 h
      refine sm_iload_n (q := 10) d_X2_isPossible_9 rfl rfl ?_
      refine sm_iconst (q := 11) d_X2_isPossible_10 rfl ci_1 ?_
      refine sm_icmp_lt (q := 14) (t := 19) d_X2_isPossible_11 rfl rfl (fun c3 => ?_) (fun c3 => ?_)
      · replace h := sm_it c3 h
        refine sm_fg [0, 1, 2] ?_
        exact j_X2_isPossible_19 hx F M _ h
      · replace h := sm_if c3 h
        refine sm_iload_n (q := 15) d_X2_isPossible_14 rfl rfl ?_
        refine sm_iconst (q := 16) d_X2_isPossible_15 rfl ci_5 ?_
        refine sm_icmp_le (q := 19) (t := 21) d_X2_isPossible_16 rfl rfl (fun c4 => ?_) (fun c4 => ?_)
        · replace h := sm_it c4 h
          refine sm_iload_n (q := 22) d_X2_isPossible_21 rfl rfl ?_
          refine sm_iconst (q := 23) d_X2_isPossible_22 rfl ci_1 ?_
          refine sm_icmp_lt (q := 26) (t := 41) d_X2_isPossible_23 rfl rfl (fun c5 => ?_) (fun c5 => ?_)
          · replace h := sm_it c5 h
            refine sm_fg [0, 1, 2] ?_
            exact j_X2_isPossible_41 hx F M _ h
          · replace h := sm_if c5 h
            refine sm_iload_n (q := 27) d_X2_isPossible_26 rfl rfl ?_
            refine sm_bipush (q := 29) d_X2_isPossible_27 rfl cb_8 ?_
            refine sm_icmp_gt (q := 32) (t := 41) d_X2_isPossible_29 rfl rfl (fun c6 => ?_) (fun c6 => ?_)
            · replace h := sm_it c6 h
              refine sm_fg [0, 1, 2] ?_
              exact j_X2_isPossible_41 hx F M _ h
            · replace h := sm_if c6 h
              refine sm_iload_n (q := 33) d_X2_isPossible_32 rfl rfl ?_
              refine sm_if_eq (q := 36) (t := 43) d_X2_isPossible_33 rfl rfl (fun c7 => ?_) (fun c7 => ?_)
              · replace h := sm_it c7 h
                exact j_X2_isPossible_43 hx F x0 x1 x2 M _ h
              · replace h := sm_if c7 h
                refine sm_iload_n (q := 37) d_X2_isPossible_36 rfl rfl ?_
                refine sm_iload_n (q := 38) d_X2_isPossible_37 rfl rfl ?_
                refine sm_icmp_le (q := 41) (t := 43) d_X2_isPossible_38 rfl rfl (fun c8 => ?_) (fun c8 => ?_)
                · replace h := sm_it c8 h
                  exact j_X2_isPossible_43 hx F x0 x1 x2 M _ h
                · replace h := sm_if c8 h
                  refine sm_fg [0, 1, 2] ?_
                  exact j_X2_isPossible_41 hx F M _ h
        · replace h := sm_if c4 h
          refine sm_fg [0, 1, 2] ?_
          exact j_X2_isPossible_19 hx F M _ h
theorem c_X2_isPossible {sk : List sm_Sh} (hx : sm_ext skX sk) (F : Nat) (x0 : Int32) (x1 : Int32) (x2 : Int32) (M : sm_M) (r : Int32) (h : f_X2_isPossible F x0 x1 x2 M = some r) : sm_Ct yX2_isPossible md_X2_isPossible 1 sk [.int x0, .int x1, .int x2] M (.inl (some (.int r))) M := sm_enter 0 pn_X2 rfl (Nat.le_of_ble_eq_true rfl) rfl (j_X2_isPossible hx F x0 x1 x2 M r h)
/-! UniversalCycles$Codes.numberMask(II)I -/
theorem d_X1_numberMask_0 : decode cX1_numberMask 0 = .ok (.iconst 0, 1) := by decide +kernel
theorem d_X1_numberMask_1 : decode cX1_numberMask 1 = .ok (.istore_n 2, 1) := by decide +kernel
theorem d_X1_numberMask_2 : decode cX1_numberMask 2 = .ok (.iconst 0, 1) := by decide +kernel
theorem d_X1_numberMask_3 : decode cX1_numberMask 3 = .ok (.istore_n 3, 1) := by decide +kernel
theorem d_X1_numberMask_4 : decode cX1_numberMask 4 = .ok (.iload_n 3, 1) := by decide +kernel
theorem d_X1_numberMask_5 : decode cX1_numberMask 5 = .ok (.iload_n 1, 1) := by decide +kernel
theorem d_X1_numberMask_6 : decode cX1_numberMask 6 = .ok (.if_icmp .ge 22, 3) := by decide +kernel
theorem d_X1_numberMask_9 : decode cX1_numberMask 9 = .ok (.iload_n 2, 1) := by decide +kernel
theorem d_X1_numberMask_10 : decode cX1_numberMask 10 = .ok (.iconst 1, 1) := by decide +kernel
theorem d_X1_numberMask_11 : decode cX1_numberMask 11 = .ok (.iload_n 0, 1) := by decide +kernel
theorem d_X1_numberMask_12 : decode cX1_numberMask 12 = .ok (.iconst 3, 1) := by decide +kernel
theorem d_X1_numberMask_13 : decode cX1_numberMask 13 = .ok (.iload_n 3, 1) := by decide +kernel
theorem d_X1_numberMask_14 : decode cX1_numberMask 14 = .ok (.imul, 1) := by decide +kernel
theorem d_X1_numberMask_15 : decode cX1_numberMask 15 = .ok (.ishr, 1) := by decide +kernel
theorem d_X1_numberMask_16 : decode cX1_numberMask 16 = .ok (.bipush 7, 2) := by decide +kernel
theorem d_X1_numberMask_18 : decode cX1_numberMask 18 = .ok (.iand, 1) := by decide +kernel
theorem d_X1_numberMask_19 : decode cX1_numberMask 19 = .ok (.ishl, 1) := by decide +kernel
theorem d_X1_numberMask_20 : decode cX1_numberMask 20 = .ok (.ior, 1) := by decide +kernel
theorem d_X1_numberMask_21 : decode cX1_numberMask 21 = .ok (.istore_n 2, 1) := by decide +kernel
theorem d_X1_numberMask_22 : decode cX1_numberMask 22 = .ok (.iinc 3 1, 3) := by decide +kernel
theorem d_X1_numberMask_25 : decode cX1_numberMask 25 = .ok (.goto (-21), 3) := by decide +kernel
theorem d_X1_numberMask_28 : decode cX1_numberMask 28 = .ok (.iload_n 2, 1) := by decide +kernel
theorem d_X1_numberMask_29 : decode cX1_numberMask 29 = .ok (.ireturn, 1) := by decide +kernel
def f_X1_numberMask_4b (F : Nat) (kb4 : Int32 → Int32 → Int32 → Int32 → sm_M → Option (Int32)) (x0 : Int32) (x1 : Int32) (x2 : Int32) (x3 : Int32) (M : sm_M) : Option (Int32) := if x1 ≤ x3 then (some x2) else (kb4 x0 x1 (x2 ||| ((1 : Int32) <<< (((x0 >>> (((3 : Int32) * x3) &&& 31)) &&& (7 : Int32)) &&& 31))) (x3 + 1) M)
set_option maxRecDepth 100000 in
set_option maxHeartbeats 4000000 in
theorem j_X1_numberMask_4b {sk : List sm_Sh} (hx : sm_ext skX sk) (F : Nat) (kb4 : Int32 → Int32 → Int32 → Int32 → sm_M → Option (Int32)) (hkb4 : ∀ (x0 : Int32) (x1 : Int32) (x2 : Int32) (x3 : Int32) (M : sm_M) (r : Int32), kb4 x0 x1 x2 x3 M = some r → sm_J (md_X1_numberMask, 0, sk, .inl (some (.int r)), M) 4 [some (.int x0), some (.int x1), some (.int x2), some (.int x3)] [] M) : ∀ (x0 : Int32) (x1 : Int32) (x2 : Int32) (x3 : Int32) (M : sm_M) (r : Int32), f_X1_numberMask_4b F kb4 x0 x1 x2 x3 M = some r → sm_J (md_X1_numberMask, 0, sk, .inl (some (.int r)), M) 4 [some (.int x0), some (.int x1), some (.int x2), some (.int x3)] [] M := by
  intro x0 x1 x2 x3  M r h
  unfold f_X1_numberMask_4b at h
  refine sm_iload_n (q := 5) d_X1_numberMask_4 rfl rfl ?_
  refine sm_iload_n (q := 6) d_X1_numberMask_5 rfl rfl ?_
  refine sm_icmp_ge (q := 9) (t := 28) d_X1_numberMask_6 rfl rfl (fun c1 => ?_) (fun c1 => ?_)
  · replace h := sm_it c1 h
    refine sm_iload_n (q := 29) d_X1_numberMask_28 rfl rfl ?_
    obtain rfl := Option.some.inj h
    exact sm_iret d_X1_numberMask_29 rfl rfl rfl rfl
  · replace h := sm_if c1 h
    refine sm_iload_n (q := 10) d_X1_numberMask_9 rfl rfl ?_
    refine sm_iconst (q := 11) d_X1_numberMask_10 rfl ci_1 ?_
    refine sm_iload_n (q := 12) d_X1_numberMask_11 rfl rfl ?_
    refine sm_iconst (q := 13) d_X1_numberMask_12 rfl ci_3 ?_
    refine sm_iload_n (q := 14) d_X1_numberMask_13 rfl rfl ?_
    refine sm_imul (q := 15) d_X1_numberMask_14 rfl ?_
    refine sm_ishr (q := 16) d_X1_numberMask_15 rfl ?_
    refine sm_bipush (q := 18) d_X1_numberMask_16 rfl cb_7 ?_
    refine sm_iand (q := 19) d_X1_numberMask_18 rfl ?_
    refine sm_ishl (q := 20) d_X1_numberMask_19 rfl ?_
    refine sm_ior (q := 21) d_X1_numberMask_20 rfl ?_
    refine sm_istore_n (q := 22) (lt := [some (.int x0), some (.int x1), some (.int (x2 ||| ((1 : Int32) <<< (((x0 >>> (((3 : Int32) * x3) &&& 31)) &&& (7 : Int32)) &&& 31)))), some (.int x3)]) d_X1_numberMask_21 rfl (Nat.le_of_ble_eq_true rfl) rfl rfl ?_
    refine sm_iinc (q := 25) (v := (x3 + 1)) (lt := [some (.int x0), some (.int x1), some (.int (x2 ||| ((1 : Int32) <<< (((x0 >>> (((3 : Int32) * x3) &&& 31)) &&& (7 : Int32)) &&& 31)))), some (.int (x3 + 1))]) d_X1_numberMask_22 rfl rfl (ii_1 _) (Nat.le_of_ble_eq_true rfl) rfl rfl ?_
    refine sm_goto (t := 4) d_X1_numberMask_25 rfl ?_
    exact hkb4 x0 x1 (x2 ||| ((1 : Int32) <<< (((x0 >>> (((3 : Int32) * x3) &&& 31)) &&& (7 : Int32)) &&& 31))) (x3 + 1) M _ h
def f_X1_numberMask_4 (F : Nat) (n : Nat) : Int32 → Int32 → Int32 → Int32 → sm_M → Option (Int32) := match n with
 | 0 => fun _ _ _ _ _ => none
 | n + 1 => f_X1_numberMask_4b F (f_X1_numberMask_4 F n)
theorem j_X1_numberMask_4 {sk : List sm_Sh} (hx : sm_ext skX sk) (F : Nat) : ∀ (n : Nat) (x0 : Int32) (x1 : Int32) (x2 : Int32) (x3 : Int32) (M : sm_M) (r : Int32), f_X1_numberMask_4 F n x0 x1 x2 x3 M = some r → sm_J (md_X1_numberMask, 0, sk, .inl (some (.int r)), M) 4 [some (.int x0), some (.int x1), some (.int x2), some (.int x3)] [] M := by
  intro n
  induction n with
  | zero => intro x0 x1 x2 x3  M r h; exact nomatch (show (none : Option (Int32)) = some r from h)
  | succ n ih => exact j_X1_numberMask_4b hx F (f_X1_numberMask_4 F n) ih
def f_X1_numberMask (F : Nat) (x0 : Int32) (x1 : Int32) (M : sm_M) : Option (Int32) := f_X1_numberMask_4 F F x0 x1 (0 : Int32) (0 : Int32) M
set_option maxRecDepth 100000 in
set_option maxHeartbeats 4000000 in
theorem j_X1_numberMask {sk : List sm_Sh} (hx : sm_ext skX sk) (F : Nat) : ∀ (x0 : Int32) (x1 : Int32) (M : sm_M) (r : Int32), f_X1_numberMask F x0 x1 M = some r → sm_J (md_X1_numberMask, 0, sk, .inl (some (.int r)), M) 0 [some (.int x0), some (.int x1), none, none] [] M := by
  intro x0 x1  M r h
  unfold f_X1_numberMask at h
  refine sm_iconst (q := 1) d_X1_numberMask_0 rfl ci_0 ?_
  refine sm_istore_n (q := 2) (lt := [some (.int x0), some (.int x1), some (.int (0 : Int32)), none]) d_X1_numberMask_1 rfl (Nat.le_of_ble_eq_true rfl) rfl rfl ?_
  refine sm_iconst (q := 3) d_X1_numberMask_2 rfl ci_0 ?_
  refine sm_istore_n (q := 4) (lt := [some (.int x0), some (.int x1), some (.int (0 : Int32)), some (.int (0 : Int32))]) d_X1_numberMask_3 rfl (Nat.le_of_ble_eq_true rfl) rfl rfl ?_
  exact j_X1_numberMask_4 hx F F x0 x1 (0 : Int32) (0 : Int32) M _ h
theorem c_X1_numberMask {sk : List sm_Sh} (hx : sm_ext skX sk) (F : Nat) (x0 : Int32) (x1 : Int32) (M : sm_M) (r : Int32) (h : f_X1_numberMask F x0 x1 M = some r) : sm_Ct yX1_numberMask md_X1_numberMask 0 sk [.int x0, .int x1] M (.inl (some (.int r))) M := sm_enter 2 pn_X1 rfl (Nat.le_of_ble_eq_true rfl) rfl (j_X1_numberMask hx F x0 x1 M r h)
/-! UniversalCycles$Codes.mayFollow(III)Z -/
theorem d_X1_mayFollow_0 : decode cX1_mayFollow 0 = .ok (.iload_n 0, 1) := by decide +kernel
theorem d_X1_mayFollow_1 : decode cX1_mayFollow 1 = .ok (.ifCond .ne 5, 3) := by decide +kernel
theorem d_X1_mayFollow_4 : decode cX1_mayFollow 4 = .ok (.iconst 1, 1) := by decide +kernel
theorem d_X1_mayFollow_5 : decode cX1_mayFollow 5 = .ok (.ireturn, 1) := by decide +kernel
theorem d_X1_mayFollow_6 : decode cX1_mayFollow 6 = .ok (.iload_n 1, 1) := by decide +kernel
theorem d_X1_mayFollow_7 : decode cX1_mayFollow 7 = .ok (.iload_n 2, 1) := by decide +kernel
theorem d_X1_mayFollow_8 : decode cX1_mayFollow 8 = .ok (.ishr, 1) := by decide +kernel
theorem d_X1_mayFollow_9 : decode cX1_mayFollow 9 = .ok (.istore_n 3, 1) := by decide +kernel
theorem d_X1_mayFollow_10 : decode cX1_mayFollow 10 = .ok (.iload_n 0, 1) := by decide +kernel
theorem d_X1_mayFollow_11 : decode cX1_mayFollow 11 = .ok (.iconst 3, 1) := by decide +kernel
theorem d_X1_mayFollow_12 : decode cX1_mayFollow 12 = .ok (.if_icmp .ne 15, 3) := by decide +kernel
theorem d_X1_mayFollow_15 : decode cX1_mayFollow 15 = .ok (.iload_n 3, 1) := by decide +kernel
theorem d_X1_mayFollow_16 : decode cX1_mayFollow 16 = .ok (.ifCond .ne 7, 3) := by decide +kernel
theorem d_X1_mayFollow_19 : decode cX1_mayFollow 19 = .ok (.iconst 1, 1) := by decide +kernel
theorem d_X1_mayFollow_20 : decode cX1_mayFollow 20 = .ok (.goto 18, 3) := by decide +kernel
theorem d_X1_mayFollow_23 : decode cX1_mayFollow 23 = .ok (.iconst 0, 1) := by decide +kernel
theorem d_X1_mayFollow_24 : decode cX1_mayFollow 24 = .ok (.goto 14, 3) := by decide +kernel
theorem d_X1_mayFollow_27 : decode cX1_mayFollow 27 = .ok (.iload_n 3, 1) := by decide +kernel
theorem d_X1_mayFollow_28 : decode cX1_mayFollow 28 = .ok (.iconst 1, 1) := by decide +kernel
theorem d_X1_mayFollow_29 : decode cX1_mayFollow 29 = .ok (.iand, 1) := by decide +kernel
theorem d_X1_mayFollow_30 : decode cX1_mayFollow 30 = .ok (.ifCond .ne 7, 3) := by decide +kernel
theorem d_X1_mayFollow_33 : decode cX1_mayFollow 33 = .ok (.iconst 1, 1) := by decide +kernel
theorem d_X1_mayFollow_34 : decode cX1_mayFollow 34 = .ok (.goto 4, 3) := by decide +kernel
theorem d_X1_mayFollow_37 : decode cX1_mayFollow 37 = .ok (.iconst 0, 1) := by decide +kernel
theorem d_X1_mayFollow_38 : decode cX1_mayFollow 38 = .ok (.ireturn, 1) := by decide +kernel
def f_X1_mayFollow_38 (F : Nat) (y0 : Int32) (M : sm_M) : Option (Int32) := sm_g (sm_nar .boolean y0) (some y0)
set_option maxRecDepth 100000 in
set_option maxHeartbeats 4000000 in
theorem j_X1_mayFollow_38 {sk : List sm_Sh} (hx : sm_ext skX sk) (F : Nat) : ∀ (y0 : Int32) (M : sm_M) (r : Int32), f_X1_mayFollow_38 F y0 M = some r → sm_J (md_X1_mayFollow, 0, sk, .inl (some (.int r)), M) 38 [none, none, none, none] [.int y0] M := by
  intro y0  M r h
  unfold f_X1_mayFollow_38 at h
  obtain ⟨g1, h⟩ := sm_gt h
  obtain rfl := Option.some.inj h
  exact sm_iret d_X1_mayFollow_38 rfl (sm_nar_of g1).1 rfl rfl
def f_X1_mayFollow (F : Nat) (x0 : Int32) (x1 : Int32) (x2 : Int32) (M : sm_M) : Option (Int32) := if x0 = 0 then (some (1 : Int32)) else (if x0 = (3 : Int32) then (if (x1 >>> (x2 &&& 31)) = 0 then (f_X1_mayFollow_38 F (1 : Int32) M) else (f_X1_mayFollow_38 F (0 : Int32) M)) else (if ((x1 >>> (x2 &&& 31)) &&& (1 : Int32)) = 0 then (f_X1_mayFollow_38 F (1 : Int32) M) else (f_X1_mayFollow_38 F (0 : Int32) M)))
set_option maxRecDepth 100000 in
set_option maxHeartbeats 4000000 in
theorem j_X1_mayFollow {sk : List sm_Sh} (hx : sm_ext skX sk) (F : Nat) : ∀ (x0 : Int32) (x1 : Int32) (x2 : Int32) (M : sm_M) (r : Int32), f_X1_mayFollow F x0 x1 x2 M = some r → sm_J (md_X1_mayFollow, 0, sk, .inl (some (.int r)), M) 0 [some (.int x0), some (.int x1), some (.int x2), none] [] M := by
  intro x0 x1 x2  M r h
  unfold f_X1_mayFollow at h
  refine sm_iload_n (q := 1) d_X1_mayFollow_0 rfl rfl ?_
  refine sm_if_ne (q := 4) (t := 6) d_X1_mayFollow_1 rfl rfl (fun c1 => ?_) (fun c1 => ?_)
  · replace h := sm_if c1 h
    refine sm_iload_n (q := 7) d_X1_mayFollow_6 rfl rfl ?_
    refine sm_iload_n (q := 8) d_X1_mayFollow_7 rfl rfl ?_
    refine sm_ishr (q := 9) d_X1_mayFollow_8 rfl ?_
    refine sm_istore_n (q := 10) (lt := [some (.int x0), some (.int x1), some (.int x2), some (.int (x1 >>> (x2 &&& 31)))]) d_X1_mayFollow_9 rfl (Nat.le_of_ble_eq_true rfl) rfl rfl ?_
    refine sm_iload_n (q := 11) d_X1_mayFollow_10 rfl rfl ?_
    refine sm_iconst (q := 12) d_X1_mayFollow_11 rfl ci_3 ?_
    refine sm_icmp_ne (q := 15) (t := 27) d_X1_mayFollow_12 rfl rfl (fun c2 => ?_) (fun c2 => ?_)
    · replace h := sm_if c2 h
      refine sm_iload_n (q := 28) d_X1_mayFollow_27 rfl rfl ?_
      refine sm_iconst (q := 29) d_X1_mayFollow_28 rfl ci_1 ?_
      refine sm_iand (q := 30) d_X1_mayFollow_29 rfl ?_
      refine sm_if_ne (q := 33) (t := 37) d_X1_mayFollow_30 rfl rfl (fun c3 => ?_) (fun c3 => ?_)
      · replace h := sm_if c3 h
        refine sm_iconst (q := 38) d_X1_mayFollow_37 rfl ci_0 ?_
        refine sm_fg [0, 1, 2, 3] ?_
        exact j_X1_mayFollow_38 hx F (0 : Int32) M _ h
      · replace h := sm_it c3 h
        refine sm_iconst (q := 34) d_X1_mayFollow_33 rfl ci_1 ?_
        refine sm_goto (t := 38) d_X1_mayFollow_34 rfl ?_
        refine sm_fg [0, 1, 2, 3] ?_
        exact j_X1_mayFollow_38 hx F (1 : Int32) M _ h
    · replace h := sm_it c2 h
      refine sm_iload_n (q := 16) d_X1_mayFollow_15 rfl rfl ?_
      refine sm_if_ne (q := 19) (t := 23) d_X1_mayFollow_16 rfl rfl (fun c4 => ?_) (fun c4 => ?_)
      · replace h := sm_if c4 h
        refine sm_iconst (q := 24) d_X1_mayFollow_23 rfl ci_0 ?_
        refine sm_goto (t := 38) d_X1_mayFollow_24 rfl ?_
        refine sm_fg [0, 1, 2, 3] ?_
        exact j_X1_mayFollow_38 hx F (0 : Int32) M _ h
      · replace h := sm_it c4 h
        refine sm_iconst (q := 20) d_X1_mayFollow_19 rfl ci_1 ?_
        refine sm_goto (t := 38) d_X1_mayFollow_20 rfl ?_
        refine sm_fg [0, 1, 2, 3] ?_
        exact j_X1_mayFollow_38 hx F (1 : Int32) M _ h
  · replace h := sm_it c1 h
    refine sm_iconst (q := 5) d_X1_mayFollow_4 rfl ci_1 ?_
    obtain rfl := Option.some.inj h
    exact sm_iret d_X1_mayFollow_5 rfl (by decide) rfl rfl
theorem c_X1_mayFollow {sk : List sm_Sh} (hx : sm_ext skX sk) (F : Nat) (x0 : Int32) (x1 : Int32) (x2 : Int32) (M : sm_M) (r : Int32) (h : f_X1_mayFollow F x0 x1 x2 M = some r) : sm_Ct yX1_mayFollow md_X1_mayFollow 0 sk [.int x0, .int x1, .int x2] M (.inl (some (.int r))) M := sm_enter 1 pn_X1 rfl (Nat.le_of_ble_eq_true rfl) rfl (j_X1_mayFollow hx F x0 x1 x2 M r h)
/-! UniversalCycles$Codes.withLast(II)I -/
theorem d_X1_withLast_0 : decode cX1_withLast 0 = .ok (.iload_n 0, 1) := by decide +kernel
theorem d_X1_withLast_1 : decode cX1_withLast 1 = .ok (.iconst 3, 1) := by decide +kernel
theorem d_X1_withLast_2 : decode cX1_withLast 2 = .ok (.ishl, 1) := by decide +kernel
theorem d_X1_withLast_3 : decode cX1_withLast 3 = .ok (.iload_n 1, 1) := by decide +kernel
theorem d_X1_withLast_4 : decode cX1_withLast 4 = .ok (.ior, 1) := by decide +kernel
theorem d_X1_withLast_5 : decode cX1_withLast 5 = .ok (.ireturn, 1) := by decide +kernel
def f_X1_withLast (F : Nat) (x0 : Int32) (x1 : Int32) (M : sm_M) : Option (Int32) := some ((x0 <<< ((3 : Int32) &&& 31)) ||| x1)
set_option maxRecDepth 100000 in
set_option maxHeartbeats 4000000 in
theorem j_X1_withLast {sk : List sm_Sh} (hx : sm_ext skX sk) (F : Nat) : ∀ (x0 : Int32) (x1 : Int32) (M : sm_M) (r : Int32), f_X1_withLast F x0 x1 M = some r → sm_J (md_X1_withLast, 0, sk, .inl (some (.int r)), M) 0 [some (.int x0), some (.int x1)] [] M := by
  intro x0 x1  M r h
  unfold f_X1_withLast at h
  refine sm_iload_n (q := 1) d_X1_withLast_0 rfl rfl ?_
  refine sm_iconst (q := 2) d_X1_withLast_1 rfl ci_3 ?_
  refine sm_ishl (q := 3) d_X1_withLast_2 rfl ?_
  refine sm_iload_n (q := 4) d_X1_withLast_3 rfl rfl ?_
  refine sm_ior (q := 5) d_X1_withLast_4 rfl ?_
  obtain rfl := Option.some.inj h
  exact sm_iret d_X1_withLast_5 rfl rfl rfl rfl
theorem c_X1_withLast {sk : List sm_Sh} (hx : sm_ext skX sk) (F : Nat) (x0 : Int32) (x1 : Int32) (M : sm_M) (r : Int32) (h : f_X1_withLast F x0 x1 M = some r) : sm_Ct yX1_withLast md_X1_withLast 0 sk [.int x0, .int x1] M (.inl (some (.int r))) M := sm_enter 0 pn_X1 rfl (Nat.le_of_ble_eq_true rfl) rfl (j_X1_withLast hx F x0 x1 M r h)
/-! UniversalCycles$Codes.lengthen(III)V -/
theorem d_X1_lengthen_0 : decode cX1_lengthen 0 = .ok (.aload_n 0, 1) := by decide +kernel
theorem d_X1_lengthen_1 : decode cX1_lengthen 1 = .ok (.getfield 9, 3) := by decide +kernel
theorem d_X1_lengthen_4 : decode cX1_lengthen 4 = .ok (.iconst 0, 1) := by decide +kernel
theorem d_X1_lengthen_5 : decode cX1_lengthen 5 = .ok (.aload_n 0, 1) := by decide +kernel
theorem d_X1_lengthen_6 : decode cX1_lengthen 6 = .ok (.getfield 15, 3) := by decide +kernel
theorem d_X1_lengthen_9 : decode cX1_lengthen 9 = .ok (.iconst 0, 1) := by decide +kernel
theorem d_X1_lengthen_10 : decode cX1_lengthen 10 = .ok (.sipush 200, 3) := by decide +kernel
theorem d_X1_lengthen_13 : decode cX1_lengthen 13 = .ok (.invokestatic 43, 3) := by decide +kernel
theorem d_X1_lengthen_16 : decode cX1_lengthen 16 = .ok (.aload_n 0, 1) := by decide +kernel
theorem d_X1_lengthen_17 : decode cX1_lengthen 17 = .ok (.getfield 35, 3) := by decide +kernel
theorem d_X1_lengthen_20 : decode cX1_lengthen 20 = .ok (.istore 4, 2) := by decide +kernel
theorem d_X1_lengthen_22 : decode cX1_lengthen 22 = .ok (.aload_n 0, 1) := by decide +kernel
theorem d_X1_lengthen_23 : decode cX1_lengthen 23 = .ok (.iconst 0, 1) := by decide +kernel
theorem d_X1_lengthen_24 : decode cX1_lengthen 24 = .ok (.putfield 35, 3) := by decide +kernel
theorem d_X1_lengthen_27 : decode cX1_lengthen 27 = .ok (.iconst 0, 1) := by decide +kernel
theorem d_X1_lengthen_28 : decode cX1_lengthen 28 = .ok (.istore 5, 2) := by decide +kernel
theorem d_X1_lengthen_30 : decode cX1_lengthen 30 = .ok (.iload 5, 2) := by decide +kernel
theorem d_X1_lengthen_32 : decode cX1_lengthen 32 = .ok (.iload 4, 2) := by decide +kernel
theorem d_X1_lengthen_34 : decode cX1_lengthen 34 = .ok (.if_icmp .ge 89, 3) := by decide +kernel
theorem d_X1_lengthen_37 : decode cX1_lengthen 37 = .ok (.aload_n 0, 1) := by decide +kernel
theorem d_X1_lengthen_38 : decode cX1_lengthen 38 = .ok (.getfield 15, 3) := by decide +kernel
theorem d_X1_lengthen_41 : decode cX1_lengthen 41 = .ok (.iload 5, 2) := by decide +kernel
theorem d_X1_lengthen_43 : decode cX1_lengthen 43 = .ok (.iaload, 1) := by decide +kernel
theorem d_X1_lengthen_44 : decode cX1_lengthen 44 = .ok (.iload_n 2, 1) := by decide +kernel
theorem d_X1_lengthen_45 : decode cX1_lengthen 45 = .ok (.invokestatic 18, 3) := by decide +kernel
theorem d_X1_lengthen_48 : decode cX1_lengthen 48 = .ok (.istore 6, 2) := by decide +kernel
theorem d_X1_lengthen_50 : decode cX1_lengthen 50 = .ok (.iconst 0, 1) := by decide +kernel
theorem d_X1_lengthen_51 : decode cX1_lengthen 51 = .ok (.istore 7, 2) := by decide +kernel
theorem d_X1_lengthen_53 : decode cX1_lengthen 53 = .ok (.iload 7, 2) := by decide +kernel
theorem d_X1_lengthen_55 : decode cX1_lengthen 55 = .ok (.iload_n 3, 1) := by decide +kernel
theorem d_X1_lengthen_56 : decode cX1_lengthen 56 = .ok (.if_icmp .ge 61, 3) := by decide +kernel
theorem d_X1_lengthen_59 : decode cX1_lengthen 59 = .ok (.iload_n 1, 1) := by decide +kernel
theorem d_X1_lengthen_60 : decode cX1_lengthen 60 = .ok (.iload 6, 2) := by decide +kernel
theorem d_X1_lengthen_62 : decode cX1_lengthen 62 = .ok (.iload 7, 2) := by decide +kernel
theorem d_X1_lengthen_64 : decode cX1_lengthen 64 = .ok (.invokestatic 49, 3) := by decide +kernel
theorem d_X1_lengthen_67 : decode cX1_lengthen 67 = .ok (.ifCond .eq 44, 3) := by decide +kernel
theorem d_X1_lengthen_70 : decode cX1_lengthen 70 = .ok (.aload_n 0, 1) := by decide +kernel
theorem d_X1_lengthen_71 : decode cX1_lengthen 71 = .ok (.getfield 35, 3) := by decide +kernel
theorem d_X1_lengthen_74 : decode cX1_lengthen 74 = .ok (.sipush 200, 3) := by decide +kernel
theorem d_X1_lengthen_77 : decode cX1_lengthen 77 = .ok (.if_icmp .ge 34, 3) := by decide +kernel
theorem d_X1_lengthen_80 : decode cX1_lengthen 80 = .ok (.aload_n 0, 1) := by decide +kernel
theorem d_X1_lengthen_81 : decode cX1_lengthen 81 = .ok (.getfield 9, 3) := by decide +kernel
theorem d_X1_lengthen_84 : decode cX1_lengthen 84 = .ok (.aload_n 0, 1) := by decide +kernel
theorem d_X1_lengthen_85 : decode cX1_lengthen 85 = .ok (.getfield 35, 3) := by decide +kernel
theorem d_X1_lengthen_88 : decode cX1_lengthen 88 = .ok (.aload_n 0, 1) := by decide +kernel
theorem d_X1_lengthen_89 : decode cX1_lengthen 89 = .ok (.getfield 15, 3) := by decide +kernel
theorem d_X1_lengthen_92 : decode cX1_lengthen 92 = .ok (.iload 5, 2) := by decide +kernel
theorem d_X1_lengthen_94 : decode cX1_lengthen 94 = .ok (.iaload, 1) := by decide +kernel
theorem d_X1_lengthen_95 : decode cX1_lengthen 95 = .ok (.iload 7, 2) := by decide +kernel
theorem d_X1_lengthen_97 : decode cX1_lengthen 97 = .ok (.invokestatic 32, 3) := by decide +kernel
theorem d_X1_lengthen_100 : decode cX1_lengthen 100 = .ok (.iastore, 1) := by decide +kernel
theorem d_X1_lengthen_101 : decode cX1_lengthen 101 = .ok (.aload_n 0, 1) := by decide +kernel
theorem d_X1_lengthen_102 : decode cX1_lengthen 102 = .ok (.dup, 1) := by decide +kernel
theorem d_X1_lengthen_103 : decode cX1_lengthen 103 = .ok (.getfield 35, 3) := by decide +kernel
theorem d_X1_lengthen_106 : decode cX1_lengthen 106 = .ok (.iconst 1, 1) := by decide +kernel
theorem d_X1_lengthen_107 : decode cX1_lengthen 107 = .ok (.iadd, 1) := by decide +kernel
theorem d_X1_lengthen_108 : decode cX1_lengthen 108 = .ok (.putfield 35, 3) := by decide +kernel
theorem d_X1_lengthen_111 : decode cX1_lengthen 111 = .ok (.iinc 7 1, 3) := by decide +kernel
theorem d_X1_lengthen_114 : decode cX1_lengthen 114 = .ok (.goto (-61), 3) := by decide +kernel
theorem d_X1_lengthen_117 : decode cX1_lengthen 117 = .ok (.iinc 5 1, 3) := by decide +kernel
theorem d_X1_lengthen_120 : decode cX1_lengthen 120 = .ok (.goto (-90), 3) := by decide +kernel
theorem d_X1_lengthen_123 : decode cX1_lengthen 123 = .ok (.return_, 1) := by decide +kernel
def f_X1_lengthen_111 (F : Nat) (a0 : Nat) (kb30 : Int32 → Int32 → Int32 → Int32 → Int32 → sm_M → Option (sm_M)) (kb53 : Int32 → Int32 → Int32 → Int32 → Int32 → Int32 → Int32 → sm_M → Option (sm_M)) (x1 : Int32) (x2 : Int32) (x3 : Int32) (x4 : Int32) (x5 : Int32) (x6 : Int32) (x7 : Int32) (M : sm_M) : Option (sm_M) := kb53 x1 x2 x3 x4 x5 x6 (x7 + 1) M
set_option maxRecDepth 100000 in
set_option maxHeartbeats 4000000 in
theorem j_X1_lengthen_111 {sk : List sm_Sh} (hx : sm_ext skX sk) (F : Nat) (a0 : Nat) (ha0 : sm_codes sk a0) (kb30 : Int32 → Int32 → Int32 → Int32 → Int32 → sm_M → Option (sm_M)) (kb53 : Int32 → Int32 → Int32 → Int32 → Int32 → Int32 → Int32 → sm_M → Option (sm_M)) (hkb30 : ∀ (x1 : Int32) (x2 : Int32) (x3 : Int32) (x4 : Int32) (x5 : Int32) (M : sm_M) (r : sm_M), kb30 x1 x2 x3 x4 x5 M = some r → sm_J (md_X1_lengthen, 1, sk, .inl none, r) 30 [some (.ref a0), some (.int x1), some (.int x2), some (.int x3), some (.int x4), some (.int x5), none, none] [] M) (hkb53 : ∀ (x1 : Int32) (x2 : Int32) (x3 : Int32) (x4 : Int32) (x5 : Int32) (x6 : Int32) (x7 : Int32) (M : sm_M) (r : sm_M), kb53 x1 x2 x3 x4 x5 x6 x7 M = some r → sm_J (md_X1_lengthen, 1, sk, .inl none, r) 53 [some (.ref a0), some (.int x1), some (.int x2), some (.int x3), some (.int x4), some (.int x5), some (.int x6), some (.int x7)] [] M) : ∀ (x1 : Int32) (x2 : Int32) (x3 : Int32) (x4 : Int32) (x5 : Int32) (x6 : Int32) (x7 : Int32) (M : sm_M) (r : sm_M), f_X1_lengthen_111 F a0 kb30 kb53 x1 x2 x3 x4 x5 x6 x7 M = some r → sm_J (md_X1_lengthen, 1, sk, .inl none, r) 111 [some (.ref a0), some (.int x1), some (.int x2), some (.int x3), some (.int x4), some (.int x5), some (.int x6), some (.int x7)] [] M := by
  intro x1 x2 x3 x4 x5 x6 x7  M r h
  unfold f_X1_lengthen_111 at h
  refine sm_iinc (q := 114) (v := (x7 + 1)) (lt := [some (.ref a0), some (.int x1), some (.int x2), some (.int x3), some (.int x4), some (.int x5), some (.int x6), some (.int (x7 + 1))]) d_X1_lengthen_111 rfl rfl (ii_1 _) (Nat.le_of_ble_eq_true rfl) rfl rfl ?_
  refine sm_goto (t := 53) d_X1_lengthen_114 rfl ?_
  exact hkb53 x1 x2 x3 x4 x5 x6 (x7 + 1) M _ h
def f_X1_lengthen_53b (F : Nat) (a0 : Nat) (kb30 : Int32 → Int32 → Int32 → Int32 → Int32 → sm_M → Option (sm_M)) (kb53 : Int32 → Int32 → Int32 → Int32 → Int32 → Int32 → Int32 → sm_M → Option (sm_M)) (x1 : Int32) (x2 : Int32) (x3 : Int32) (x4 : Int32) (x5 : Int32) (x6 : Int32) (x7 : Int32) (M : sm_M) : Option (sm_M) := if x3 ≤ x7 then (kb30 x1 x2 x3 x4 (x5 + 1) M) else ((f_X1_mayFollow F x1 x6 x7 M).bind fun q2 => if q2 = 0 then (f_X1_lengthen_111 F a0 kb30 kb53 x1 x2 x3 x4 x5 x6 x7 M) else (if (200 : Int32) ≤ (M.1 a0 2) then (f_X1_lengthen_111 F a0 kb30 kb53 x1 x2 x3 x4 x5 x6 x7 M) else (sm_g (sm_ib x5 200) ((f_X1_withLast F (M.1 (a0 + 2) x5.toNatClampNeg) x7 M).bind fun q6 => sm_g (sm_ib (M.1 a0 2) 200) (f_X1_lengthen_111 F a0 kb30 kb53 x1 x2 x3 x4 x5 x6 x7 ((sm_mi (sm_mi M (a0 + 1) (M.1 a0 2).toNatClampNeg q6) a0 2 ((((sm_mi M (a0 + 1) (M.1 a0 2).toNatClampNeg q6)).1 a0 2) + (1 : Int32)))))))))
set_option maxRecDepth 100000 in
set_option maxHeartbeats 4000000 in
theorem j_X1_lengthen_53b {sk : List sm_Sh} (hx : sm_ext skX sk) (F : Nat) (a0 : Nat) (ha0 : sm_codes sk a0) (kb30 : Int32 → Int32 → Int32 → Int32 → Int32 → sm_M → Option (sm_M)) (kb53 : Int32 → Int32 → Int32 → Int32 → Int32 → Int32 → Int32 → sm_M → Option (sm_M)) (hkb30 : ∀ (x1 : Int32) (x2 : Int32) (x3 : Int32) (x4 : Int32) (x5 : Int32) (M : sm_M) (r : sm_M), kb30 x1 x2 x3 x4 x5 M = some r → sm_J (md_X1_lengthen, 1, sk, .inl none, r) 30 [some (.ref a0), some (.int x1), some (.int x2), some (.int x3), some (.int x4), some (.int x5), none, none] [] M) (hkb53 : ∀ (x1 : Int32) (x2 : Int32) (x3 : Int32) (x4 : Int32) (x5 : Int32) (x6 : Int32) (x7 : Int32) (M : sm_M) (r : sm_M), kb53 x1 x2 x3 x4 x5 x6 x7 M = some r → sm_J (md_X1_lengthen, 1, sk, .inl none, r) 53 [some (.ref a0), some (.int x1), some (.int x2), some (.int x3), some (.int x4), some (.int x5), some (.int x6), some (.int x7)] [] M) : ∀ (x1 : Int32) (x2 : Int32) (x3 : Int32) (x4 : Int32) (x5 : Int32) (x6 : Int32) (x7 : Int32) (M : sm_M) (r : sm_M), f_X1_lengthen_53b F a0 kb30 kb53 x1 x2 x3 x4 x5 x6 x7 M = some r → sm_J (md_X1_lengthen, 1, sk, .inl none, r) 53 [some (.ref a0), some (.int x1), some (.int x2), some (.int x3), some (.int x4), some (.int x5), some (.int x6), some (.int x7)] [] M := by
  intro x1 x2 x3 x4 x5 x6 x7  M r h
  unfold f_X1_lengthen_53b at h
  refine sm_iload (q := 55) d_X1_lengthen_53 rfl rfl ?_
  refine sm_iload_n (q := 56) d_X1_lengthen_55 rfl rfl ?_
  refine sm_icmp_ge (q := 59) (t := 117) d_X1_lengthen_56 rfl rfl (fun c1 => ?_) (fun c1 => ?_)
  · replace h := sm_it c1 h
    refine sm_iinc (q := 120) (v := (x5 + 1)) (lt := [some (.ref a0), some (.int x1), some (.int x2), some (.int x3), some (.int x4), some (.int (x5 + 1)), some (.int x6), some (.int x7)]) d_X1_lengthen_117 rfl rfl (ii_1 _) (Nat.le_of_ble_eq_true rfl) rfl rfl ?_
    refine sm_goto (t := 30) d_X1_lengthen_120 rfl ?_
    refine sm_fg [6, 7] ?_
    exact hkb30 x1 x2 x3 x4 (x5 + 1) M _ h
  · replace h := sm_if c1 h
    refine sm_iload_n (q := 60) d_X1_lengthen_59 rfl rfl ?_
    refine sm_iload (q := 62) d_X1_lengthen_60 rfl rfl ?_
    refine sm_iload (q := 64) d_X1_lengthen_62 rfl rfl ?_
    obtain ⟨q2, e2, h⟩ := sm_bd h
    refine sm_callS (q := 67) (d' := 0) [] [.int x1, .int x6, .int x7] d_X1_lengthen_64 rfl lk_X1_49 rfl (Nat.le_of_ble_eq_true rfl) (Nat.le_of_ble_eq_true rfl) (c_X1_mayFollow hx F x1 x6 x7 M _ e2) (st9 := [.int q2]) rfl ?_
    refine sm_if_eq (q := 70) (t := 111) d_X1_lengthen_67 rfl rfl (fun c3 => ?_) (fun c3 => ?_)
    · replace h := sm_it c3 h
      exact j_X1_lengthen_111 hx F a0 ha0 kb30 kb53 hkb30 hkb53 x1 x2 x3 x4 x5 x6 x7 M _ h
    · replace h := sm_if c3 h
      refine sm_aload_n (q := 71) d_X1_lengthen_70 rfl rfl ?_
      refine sm_geti (q := 74) d_X1_lengthen_71 rfl fl_X1_35 ha0.1 rfl ?_
      refine sm_sipush (q := 77) d_X1_lengthen_74 rfl cs_200 ?_
      refine sm_icmp_ge (q := 80) (t := 111) d_X1_lengthen_77 rfl rfl (fun c4 => ?_) (fun c4 => ?_)
      · replace h := sm_it c4 h
        exact j_X1_lengthen_111 hx F a0 ha0 kb30 kb53 hkb30 hkb53 x1 x2 x3 x4 x5 x6 x7 M _ h
      · replace h := sm_if c4 h
        refine sm_aload_n (q := 81) d_X1_lengthen_80 rfl rfl ?_
        refine sm_getr (q := 84) d_X1_lengthen_81 rfl fl_X1_9 ha0.1 rfl ?_
        refine sm_aload_n (q := 85) d_X1_lengthen_84 rfl rfl ?_
        refine sm_geti (q := 88) d_X1_lengthen_85 rfl fl_X1_35 ha0.1 rfl ?_
        refine sm_aload_n (q := 89) d_X1_lengthen_88 rfl rfl ?_
        refine sm_getr (q := 92) d_X1_lengthen_89 rfl fl_X1_15 ha0.1 rfl ?_
        refine sm_iload (q := 94) d_X1_lengthen_92 rfl rfl ?_
        obtain ⟨g5, h⟩ := sm_gt h
        refine sm_iaload (q := 95) d_X1_lengthen_94 rfl ha0.2.2 (sm_ib_of g5) ?_
        refine sm_iload (q := 97) d_X1_lengthen_95 rfl rfl ?_
        obtain ⟨q6, e6, h⟩ := sm_bd h
        refine sm_callS (q := 100) (d' := 0) [.int (M.1 a0 2), .ref (a0 + 1)] [.int (M.1 (a0 + 2) x5.toNatClampNeg), .int x7] d_X1_lengthen_97 rfl lk_X1_32 rfl (Nat.le_of_ble_eq_true rfl) (Nat.le_of_ble_eq_true rfl) (c_X1_withLast hx F (M.1 (a0 + 2) x5.toNatClampNeg) x7 M _ e6) (st9 := [.int q6, .int (M.1 a0 2), .ref (a0 + 1)]) rfl ?_
        obtain ⟨g7, h⟩ := sm_gt h
        refine sm_iastore (q := 101) d_X1_lengthen_100 rfl ha0.2.1 (sm_ib_of g7) ?_
        refine sm_aload_n (q := 102) d_X1_lengthen_101 rfl rfl ?_
        refine sm_dup (q := 103) d_X1_lengthen_102 rfl rfl ?_
        refine sm_geti (q := 106) d_X1_lengthen_103 rfl fl_X1_35 ha0.1 rfl ?_
        refine sm_iconst (q := 107) d_X1_lengthen_106 rfl ci_1 ?_
        refine sm_iadd (q := 108) d_X1_lengthen_107 rfl ?_
        refine sm_puti (q := 111) d_X1_lengthen_108 rfl fw_X1_35 ha0.1 rfl rfl rfl ?_
        exact j_X1_lengthen_111 hx F a0 ha0 kb30 kb53 hkb30 hkb53 x1 x2 x3 x4 x5 x6 x7 ((sm_mi (sm_mi M (a0 + 1) (M.1 a0 2).toNatClampNeg q6) a0 2 ((((sm_mi M (a0 + 1) (M.1 a0 2).toNatClampNeg q6)).1 a0 2) + (1 : Int32)))) _ h
def f_X1_lengthen_53 (F : Nat) (a0 : Nat) (kb30 : Int32 → Int32 → Int32 → Int32 → Int32 → sm_M → Option (sm_M)) (n : Nat) : Int32 → Int32 → Int32 → Int32 → Int32 → Int32 → Int32 → sm_M → Option (sm_M) := match n with
 | 0 => fun _ _ _ _ _ _ _ _ => none
 | n + 1 => f_X1_lengthen_53b F a0 kb30 (f_X1_lengthen_53 F a0 kb30 n)
theorem j_X1_lengthen_53 {sk : List sm_Sh} (hx : sm_ext skX sk) (F : Nat) (a0 : Nat) (ha0 : sm_codes sk a0) (kb30 : Int32 → Int32 → Int32 → Int32 → Int32 → sm_M → Option (sm_M)) (hkb30 : ∀ (x1 : Int32) (x2 : Int32) (x3 : Int32) (x4 : Int32) (x5 : Int32) (M : sm_M) (r : sm_M), kb30 x1 x2 x3 x4 x5 M = some r → sm_J (md_X1_lengthen, 1, sk, .inl none, r) 30 [some (.ref a0), some (.int x1), some (.int x2), some (.int x3), some (.int x4), some (.int x5), none, none] [] M) : ∀ (n : Nat) (x1 : Int32) (x2 : Int32) (x3 : Int32) (x4 : Int32) (x5 : Int32) (x6 : Int32) (x7 : Int32) (M : sm_M) (r : sm_M), f_X1_lengthen_53 F a0 kb30 n x1 x2 x3 x4 x5 x6 x7 M = some r → sm_J (md_X1_lengthen, 1, sk, .inl none, r) 53 [some (.ref a0), some (.int x1), some (.int x2), some (.int x3), some (.int x4), some (.int x5), some (.int x6), some (.int x7)] [] M := by
  intro n
  induction n with
  | zero => intro x1 x2 x3 x4 x5 x6 x7  M r h; exact nomatch (show (none : Option (sm_M)) = some r from h)
  | succ n ih => exact j_X1_lengthen_53b hx F a0 ha0 kb30 (f_X1_lengthen_53 F a0 kb30 n) hkb30 ih
def f_X1_lengthen_30b (F : Nat) (a0 : Nat) (kb30 : Int32 → Int32 → Int32 → Int32 → Int32 → sm_M → Option (sm_M)) (x1 : Int32) (x2 : Int32) (x3 : Int32) (x4 : Int32) (x5 : Int32) (M : sm_M) : Option (sm_M) := if x4 ≤ x5 then (some M) else (sm_g (sm_ib x5 200) ((f_X1_numberMask F (M.1 (a0 + 2) x5.toNatClampNeg) x2 M).bind fun q3 => f_X1_lengthen_53 F a0 kb30 F x1 x2 x3 x4 x5 q3 (0 : Int32) M))
set_option maxRecDepth 100000 in
set_option maxHeartbeats 4000000 in
theorem j_X1_lengthen_30b {sk : List sm_Sh} (hx : sm_ext skX sk) (F : Nat) (a0 : Nat) (ha0 : sm_codes sk a0) (kb30 : Int32 → Int32 → Int32 → Int32 → Int32 → sm_M → Option (sm_M)) (hkb30 : ∀ (x1 : Int32) (x2 : Int32) (x3 : Int32) (x4 : Int32) (x5 : Int32) (M : sm_M) (r : sm_M), kb30 x1 x2 x3 x4 x5 M = some r → sm_J (md_X1_lengthen, 1, sk, .inl none, r) 30 [some (.ref a0), some (.int x1), some (.int x2), some (.int x3), some (.int x4), some (.int x5), none, none] [] M) : ∀ (x1 : Int32) (x2 : Int32) (x3 : Int32) (x4 : Int32) (x5 : Int32) (M : sm_M) (r : sm_M), f_X1_lengthen_30b F a0 kb30 x1 x2 x3 x4 x5 M = some r → sm_J (md_X1_lengthen, 1, sk, .inl none, r) 30 [some (.ref a0), some (.int x1), some (.int x2), some (.int x3), some (.int x4), some (.int x5), none, none] [] M := by
  intro x1 x2 x3 x4 x5  M r h
  unfold f_X1_lengthen_30b at h
  refine sm_iload (q := 32) d_X1_lengthen_30 rfl rfl ?_
  refine sm_iload (q := 34) d_X1_lengthen_32 rfl rfl ?_
  refine sm_icmp_ge (q := 37) (t := 123) d_X1_lengthen_34 rfl rfl (fun c1 => ?_) (fun c1 => ?_)
  · replace h := sm_it c1 h
    obtain rfl := Option.some.inj h
    exact sm_vret d_X1_lengthen_123 rfl rfl rfl
  · replace h := sm_if c1 h
    refine sm_aload_n (q := 38) d_X1_lengthen_37 rfl rfl ?_
    refine sm_getr (q := 41) d_X1_lengthen_38 rfl fl_X1_15 ha0.1 rfl ?_
    refine sm_iload (q := 43) d_X1_lengthen_41 rfl rfl ?_
    obtain ⟨g2, h⟩ := sm_gt h
    refine sm_iaload (q := 44) d_X1_lengthen_43 rfl ha0.2.2 (sm_ib_of g2) ?_
    refine sm_iload_n (q := 45) d_X1_lengthen_44 rfl rfl ?_
    obtain ⟨q3, e3, h⟩ := sm_bd h
    refine sm_callS (q := 48) (d' := 0) [] [.int (M.1 (a0 + 2) x5.toNatClampNeg), .int x2] d_X1_lengthen_45 rfl lk_X1_18 rfl (Nat.le_of_ble_eq_true rfl) (Nat.le_of_ble_eq_true rfl) (c_X1_numberMask hx F (M.1 (a0 + 2) x5.toNatClampNeg) x2 M _ e3) (st9 := [.int q3]) rfl ?_
    refine sm_istore (q := 50) (lt := [some (.ref a0), some (.int x1), some (.int x2), some (.int x3), some (.int x4), some (.int x5), some (.int q3), none]) d_X1_lengthen_48 rfl (Nat.le_of_ble_eq_true rfl) rfl rfl ?_
    refine sm_iconst (q := 51) d_X1_lengthen_50 rfl ci_0 ?_
    refine sm_istore (q := 53) (lt := [some (.ref a0), some (.int x1), some (.int x2), some (.int x3), some (.int x4), some (.int x5), some (.int q3), some (.int (0 : Int32))]) d_X1_lengthen_51 rfl (Nat.le_of_ble_eq_true rfl) rfl rfl ?_
    exact j_X1_lengthen_53 hx F a0 ha0 kb30 hkb30 F x1 x2 x3 x4 x5 q3 (0 : Int32) M _ h
def f_X1_lengthen_30 (F : Nat) (a0 : Nat) (n : Nat) : Int32 → Int32 → Int32 → Int32 → Int32 → sm_M → Option (sm_M) := match n with
 | 0 => fun _ _ _ _ _ _ => none
 | n + 1 => f_X1_lengthen_30b F a0 (f_X1_lengthen_30 F a0 n)
theorem j_X1_lengthen_30 {sk : List sm_Sh} (hx : sm_ext skX sk) (F : Nat) (a0 : Nat) (ha0 : sm_codes sk a0) : ∀ (n : Nat) (x1 : Int32) (x2 : Int32) (x3 : Int32) (x4 : Int32) (x5 : Int32) (M : sm_M) (r : sm_M), f_X1_lengthen_30 F a0 n x1 x2 x3 x4 x5 M = some r → sm_J (md_X1_lengthen, 1, sk, .inl none, r) 30 [some (.ref a0), some (.int x1), some (.int x2), some (.int x3), some (.int x4), some (.int x5), none, none] [] M := by
  intro n
  induction n with
  | zero => intro x1 x2 x3 x4 x5  M r h; exact nomatch (show (none : Option (sm_M)) = some r from h)
  | succ n ih => exact j_X1_lengthen_30b hx F a0 ha0 (f_X1_lengthen_30 F a0 n) ih
def f_X1_lengthen (F : Nat) (a0 : Nat) (x1 : Int32) (x2 : Int32) (x3 : Int32) (M : sm_M) : Option (sm_M) := sm_g (sm_cpb (0 : Int32) (0 : Int32) (200 : Int32) 200 200) (f_X1_lengthen_30 F a0 F x1 x2 x3 (((sm_mc M (a0 + 1) (a0 + 2) (0 : Int32).toNatClampNeg (0 : Int32).toNatClampNeg (200 : Int32).toNatClampNeg)).1 a0 2) (0 : Int32) ((sm_mi (sm_mc M (a0 + 1) (a0 + 2) (0 : Int32).toNatClampNeg (0 : Int32).toNatClampNeg (200 : Int32).toNatClampNeg) a0 2 (0 : Int32))))
set_option maxRecDepth 100000 in
set_option maxHeartbeats 4000000 in
theorem j_X1_lengthen {sk : List sm_Sh} (hx : sm_ext skX sk) (F : Nat) (a0 : Nat) (ha0 : sm_codes sk a0) : ∀ (x1 : Int32) (x2 : Int32) (x3 : Int32) (M : sm_M) (r : sm_M), f_X1_lengthen F a0 x1 x2 x3 M = some r → sm_J (md_X1_lengthen, 1, sk, .inl none, r) 0 [some (.ref a0), some (.int x1), some (.int x2), some (.int x3), none, none, none, none] [] M := by
  intro x1 x2 x3  M r h
  unfold f_X1_lengthen at h
  refine sm_aload_n (q := 1) d_X1_lengthen_0 rfl rfl ?_
  refine sm_getr (q := 4) d_X1_lengthen_1 rfl fl_X1_9 ha0.1 rfl ?_
  refine sm_iconst (q := 5) d_X1_lengthen_4 rfl ci_0 ?_
  refine sm_aload_n (q := 6) d_X1_lengthen_5 rfl rfl ?_
  refine sm_getr (q := 9) d_X1_lengthen_6 rfl fl_X1_15 ha0.1 rfl ?_
  refine sm_iconst (q := 10) d_X1_lengthen_9 rfl ci_0 ?_
  refine sm_sipush (q := 13) d_X1_lengthen_10 rfl cs_200 ?_
  obtain ⟨g1, h⟩ := sm_gt h
  refine sm_copy (q := 16) d_X1_lengthen_13 rfl lk_X1_43 ha0.2.1 ha0.2.2 (sm_cpb_of g1).1 (sm_cpb_of g1).2.1 (sm_cpb_of g1).2.2.1 (sm_cpb_of g1).2.2.2.1 (sm_cpb_of g1).2.2.2.2 (Nat.le_of_ble_eq_true rfl) (Nat.le_of_ble_eq_true rfl) ?_
  refine sm_aload_n (q := 17) d_X1_lengthen_16 rfl rfl ?_
  refine sm_geti (q := 20) d_X1_lengthen_17 rfl fl_X1_35 ha0.1 rfl ?_
  refine sm_istore (q := 22) (lt := [some (.ref a0), some (.int x1), some (.int x2), some (.int x3), some (.int (((sm_mc M (a0 + 1) (a0 + 2) (0 : Int32).toNatClampNeg (0 : Int32).toNatClampNeg (200 : Int32).toNatClampNeg)).1 a0 2)), none, none, none]) d_X1_lengthen_20 rfl (Nat.le_of_ble_eq_true rfl) rfl rfl ?_
  refine sm_aload_n (q := 23) d_X1_lengthen_22 rfl rfl ?_
  refine sm_iconst (q := 24) d_X1_lengthen_23 rfl ci_0 ?_
  refine sm_puti (q := 27) d_X1_lengthen_24 rfl fw_X1_35 ha0.1 rfl rfl rfl ?_
  refine sm_iconst (q := 28) d_X1_lengthen_27 rfl ci_0 ?_
  refine sm_istore (q := 30) (lt := [some (.ref a0), some (.int x1), some (.int x2), some (.int x3), some (.int (((sm_mc M (a0 + 1) (a0 + 2) (0 : Int32).toNatClampNeg (0 : Int32).toNatClampNeg (200 : Int32).toNatClampNeg)).1 a0 2)), some (.int (0 : Int32)), none, none]) d_X1_lengthen_28 rfl (Nat.le_of_ble_eq_true rfl) rfl rfl ?_
  exact j_X1_lengthen_30 hx F a0 ha0 F x1 x2 x3 (((sm_mc M (a0 + 1) (a0 + 2) (0 : Int32).toNatClampNeg (0 : Int32).toNatClampNeg (200 : Int32).toNatClampNeg)).1 a0 2) (0 : Int32) ((sm_mi (sm_mc M (a0 + 1) (a0 + 2) (0 : Int32).toNatClampNeg (0 : Int32).toNatClampNeg (200 : Int32).toNatClampNeg) a0 2 (0 : Int32))) _ h
theorem c_X1_lengthen {sk : List sm_Sh} (hx : sm_ext skX sk) (F : Nat) (a0 : Nat) (ha0 : sm_codes sk a0) (x1 : Int32) (x2 : Int32) (x3 : Int32) (M : sm_M) (r : sm_M) (h : f_X1_lengthen F a0 x1 x2 x3 M = some r) : sm_Ct yX1_lengthen md_X1_lengthen 1 sk [.ref a0, .int x1, .int x2, .int x3] M (.inl none) r := sm_enter 4 pn_X1 rfl (Nat.le_of_ble_eq_true rfl) rfl (j_X1_lengthen hx F a0 ha0 x1 x2 x3 M r h)
/-! UniversalCycles$Codes.fill(III)V -/
theorem d_X1_fill_0 : decode cX1_fill 0 = .ok (.aload_n 0, 1) := by decide +kernel
theorem d_X1_fill_1 : decode cX1_fill 1 = .ok (.getfield 9, 3) := by decide +kernel
theorem d_X1_fill_4 : decode cX1_fill 4 = .ok (.iconst 0, 1) := by decide +kernel
theorem d_X1_fill_5 : decode cX1_fill 5 = .ok (.iconst 0, 1) := by decide +kernel
theorem d_X1_fill_6 : decode cX1_fill 6 = .ok (.iastore, 1) := by decide +kernel
theorem d_X1_fill_7 : decode cX1_fill 7 = .ok (.aload_n 0, 1) := by decide +kernel
theorem d_X1_fill_8 : decode cX1_fill 8 = .ok (.iconst 1, 1) := by decide +kernel
theorem d_X1_fill_9 : decode cX1_fill 9 = .ok (.putfield 35, 3) := by decide +kernel
theorem d_X1_fill_12 : decode cX1_fill 12 = .ok (.iconst 0, 1) := by decide +kernel
theorem d_X1_fill_13 : decode cX1_fill 13 = .ok (.istore 4, 2) := by decide +kernel
theorem d_X1_fill_15 : decode cX1_fill 15 = .ok (.iload 4, 2) := by decide +kernel
theorem d_X1_fill_17 : decode cX1_fill 17 = .ok (.iload_n 2, 1) := by decide +kernel
theorem d_X1_fill_18 : decode cX1_fill 18 = .ok (.if_icmp .ge 17, 3) := by decide +kernel
theorem d_X1_fill_21 : decode cX1_fill 21 = .ok (.aload_n 0, 1) := by decide +kernel
theorem d_X1_fill_22 : decode cX1_fill 22 = .ok (.iload_n 1, 1) := by decide +kernel
theorem d_X1_fill_23 : decode cX1_fill 23 = .ok (.iload 4, 2) := by decide +kernel
theorem d_X1_fill_25 : decode cX1_fill 25 = .ok (.iload_n 3, 1) := by decide +kernel
theorem d_X1_fill_26 : decode cX1_fill 26 = .ok (.invokevirtual 39, 3) := by decide +kernel
theorem d_X1_fill_29 : decode cX1_fill 29 = .ok (.iinc 4 1, 3) := by decide +kernel
theorem d_X1_fill_32 : decode cX1_fill 32 = .ok (.goto (-17), 3) := by decide +kernel
theorem d_X1_fill_35 : decode cX1_fill 35 = .ok (.return_, 1) := by decide +kernel
def f_X1_fill_15b (F : Nat) (a0 : Nat) (kb15 : Int32 → Int32 → Int32 → Int32 → sm_M → Option (sm_M)) (x1 : Int32) (x2 : Int32) (x3 : Int32) (x4 : Int32) (M : sm_M) : Option (sm_M) := if x2 ≤ x4 then (some M) else ((f_X1_lengthen F a0 x1 x4 x3 M).bind fun q2 => kb15 x1 x2 x3 (x4 + 1) q2)
set_option maxRecDepth 100000 in
set_option maxHeartbeats 4000000 in
theorem j_X1_fill_15b {sk : List sm_Sh} (hx : sm_ext skX sk) (F : Nat) (a0 : Nat) (ha0 : sm_codes sk a0) (kb15 : Int32 → Int32 → Int32 → Int32 → sm_M → Option (sm_M)) (hkb15 : ∀ (x1 : Int32) (x2 : Int32) (x3 : Int32) (x4 : Int32) (M : sm_M) (r : sm_M), kb15 x1 x2 x3 x4 M = some r → sm_J (md_X1_fill, 2, sk, .inl none, r) 15 [some (.ref a0), some (.int x1), some (.int x2), some (.int x3), some (.int x4)] [] M) : ∀ (x1 : Int32) (x2 : Int32) (x3 : Int32) (x4 : Int32) (M : sm_M) (r : sm_M), f_X1_fill_15b F a0 kb15 x1 x2 x3 x4 M = some r → sm_J (md_X1_fill, 2, sk, .inl none, r) 15 [some (.ref a0), some (.int x1), some (.int x2), some (.int x3), some (.int x4)] [] M := by
  intro x1 x2 x3 x4  M r h
  unfold f_X1_fill_15b at h
  refine sm_iload (q := 17) d_X1_fill_15 rfl rfl ?_
  refine sm_iload_n (q := 18) d_X1_fill_17 rfl rfl ?_
  refine sm_icmp_ge (q := 21) (t := 35) d_X1_fill_18 rfl rfl (fun c1 => ?_) (fun c1 => ?_)
  · replace h := sm_it c1 h
    obtain rfl := Option.some.inj h
    exact sm_vret d_X1_fill_35 rfl rfl rfl
  · replace h := sm_if c1 h
    refine sm_aload_n (q := 22) d_X1_fill_21 rfl rfl ?_
    refine sm_iload_n (q := 23) d_X1_fill_22 rfl rfl ?_
    refine sm_iload (q := 25) d_X1_fill_23 rfl rfl ?_
    refine sm_iload_n (q := 26) d_X1_fill_25 rfl rfl ?_
    obtain ⟨q2, e2, h⟩ := sm_bd h
    refine sm_callV (q := 29) (d' := 1) [] [.int x1, .int x4, .int x3] d_X1_fill_26 rfl lk_X1_39 ha0.1 rfl rfl rfl (Nat.le_of_ble_eq_true rfl) (Nat.le_of_ble_eq_true rfl) (c_X1_lengthen hx F a0 ha0 x1 x4 x3 M _ e2) (st9 := []) rfl ?_
    refine sm_iinc (q := 32) (v := (x4 + 1)) (lt := [some (.ref a0), some (.int x1), some (.int x2), some (.int x3), some (.int (x4 + 1))]) d_X1_fill_29 rfl rfl (ii_1 _) (Nat.le_of_ble_eq_true rfl) rfl rfl ?_
    refine sm_goto (t := 15) d_X1_fill_32 rfl ?_
    exact hkb15 x1 x2 x3 (x4 + 1) q2 _ h
def f_X1_fill_15 (F : Nat) (a0 : Nat) (n : Nat) : Int32 → Int32 → Int32 → Int32 → sm_M → Option (sm_M) := match n with
 | 0 => fun _ _ _ _ _ => none
 | n + 1 => f_X1_fill_15b F a0 (f_X1_fill_15 F a0 n)
theorem j_X1_fill_15 {sk : List sm_Sh} (hx : sm_ext skX sk) (F : Nat) (a0 : Nat) (ha0 : sm_codes sk a0) : ∀ (n : Nat) (x1 : Int32) (x2 : Int32) (x3 : Int32) (x4 : Int32) (M : sm_M) (r : sm_M), f_X1_fill_15 F a0 n x1 x2 x3 x4 M = some r → sm_J (md_X1_fill, 2, sk, .inl none, r) 15 [some (.ref a0), some (.int x1), some (.int x2), some (.int x3), some (.int x4)] [] M := by
  intro n
  induction n with
  | zero => intro x1 x2 x3 x4  M r h; exact nomatch (show (none : Option (sm_M)) = some r from h)
  | succ n ih => exact j_X1_fill_15b hx F a0 ha0 (f_X1_fill_15 F a0 n) ih
def f_X1_fill (F : Nat) (a0 : Nat) (x1 : Int32) (x2 : Int32) (x3 : Int32) (M : sm_M) : Option (sm_M) := f_X1_fill_15 F a0 F x1 x2 x3 (0 : Int32) ((sm_mi (sm_mi M (a0 + 1) (0 : Int32).toNatClampNeg (0 : Int32)) a0 2 (1 : Int32)))
set_option maxRecDepth 100000 in
set_option maxHeartbeats 4000000 in
theorem j_X1_fill {sk : List sm_Sh} (hx : sm_ext skX sk) (F : Nat) (a0 : Nat) (ha0 : sm_codes sk a0) : ∀ (x1 : Int32) (x2 : Int32) (x3 : Int32) (M : sm_M) (r : sm_M), f_X1_fill F a0 x1 x2 x3 M = some r → sm_J (md_X1_fill, 2, sk, .inl none, r) 0 [some (.ref a0), some (.int x1), some (.int x2), some (.int x3), none] [] M := by
  intro x1 x2 x3  M r h
  unfold f_X1_fill at h
  refine sm_aload_n (q := 1) d_X1_fill_0 rfl rfl ?_
  refine sm_getr (q := 4) d_X1_fill_1 rfl fl_X1_9 ha0.1 rfl ?_
  refine sm_iconst (q := 5) d_X1_fill_4 rfl ci_0 ?_
  refine sm_iconst (q := 6) d_X1_fill_5 rfl ci_0 ?_
  refine sm_iastore (q := 7) d_X1_fill_6 rfl ha0.2.1 (sm_ib_of (by decide)) ?_
  refine sm_aload_n (q := 8) d_X1_fill_7 rfl rfl ?_
  refine sm_iconst (q := 9) d_X1_fill_8 rfl ci_1 ?_
  refine sm_puti (q := 12) d_X1_fill_9 rfl fw_X1_35 ha0.1 rfl rfl rfl ?_
  refine sm_iconst (q := 13) d_X1_fill_12 rfl ci_0 ?_
  refine sm_istore (q := 15) (lt := [some (.ref a0), some (.int x1), some (.int x2), some (.int x3), some (.int (0 : Int32))]) d_X1_fill_13 rfl (Nat.le_of_ble_eq_true rfl) rfl rfl ?_
  exact j_X1_fill_15 hx F a0 ha0 F x1 x2 x3 (0 : Int32) ((sm_mi (sm_mi M (a0 + 1) (0 : Int32).toNatClampNeg (0 : Int32)) a0 2 (1 : Int32))) _ h
theorem c_X1_fill {sk : List sm_Sh} (hx : sm_ext skX sk) (F : Nat) (a0 : Nat) (ha0 : sm_codes sk a0) (x1 : Int32) (x2 : Int32) (x3 : Int32) (M : sm_M) (r : sm_M) (h : f_X1_fill F a0 x1 x2 x3 M = some r) : sm_Ct yX1_fill md_X1_fill 2 sk [.ref a0, .int x1, .int x2, .int x3] M (.inl none) r := sm_enter 1 pn_X1 rfl (Nat.le_of_ble_eq_true rfl) rfl (j_X1_fill hx F a0 ha0 x1 x2 x3 M r h)
/-! UniversalCycles$Family.fillCodes(LUniversalCycles$Codes;I)V -/
theorem d_X2_fillCodes_0 : decode cX2_fillCodes 0 = .ok (.aload_n 1, 1) := by decide +kernel
theorem d_X2_fillCodes_1 : decode cX2_fillCodes 1 = .ok (.aload_n 0, 1) := by decide +kernel
theorem d_X2_fillCodes_2 : decode cX2_fillCodes 2 = .ok (.getfield 22, 3) := by decide +kernel
theorem d_X2_fillCodes_5 : decode cX2_fillCodes 5 = .ok (.iload_n 2, 1) := by decide +kernel
theorem d_X2_fillCodes_6 : decode cX2_fillCodes 6 = .ok (.aload_n 0, 1) := by decide +kernel
theorem d_X2_fillCodes_7 : decode cX2_fillCodes 7 = .ok (.getfield 22, 3) := by decide +kernel
theorem d_X2_fillCodes_10 : decode cX2_fillCodes 10 = .ok (.iconst 1, 1) := by decide +kernel
theorem d_X2_fillCodes_11 : decode cX2_fillCodes 11 = .ok (.if_icmp .ne 7, 3) := by decide +kernel
theorem d_X2_fillCodes_14 : decode cX2_fillCodes 14 = .ok (.iload_n 2, 1) := by decide +kernel
theorem d_X2_fillCodes_15 : decode cX2_fillCodes 15 = .ok (.goto 7, 3) := by decide +kernel
theorem d_X2_fillCodes_18 : decode cX2_fillCodes 18 = .ok (.aload_n 0, 1) := by decide +kernel
theorem d_X2_fillCodes_19 : decode cX2_fillCodes 19 = .ok (.getfield 29, 3) := by decide +kernel
theorem d_X2_fillCodes_22 : decode cX2_fillCodes 22 = .ok (.invokevirtual 36, 3) := by decide +kernel
theorem d_X2_fillCodes_25 : decode cX2_fillCodes 25 = .ok (.return_, 1) := by decide +kernel
def f_X2_fillCodes_22 (F : Nat) (a1 : Nat) (y1 : Int32) (y2 : Int32) (y3 : Int32) (M : sm_M) : Option (sm_M) := (f_X1_fill F a1 y1 y2 y3 M).bind fun q1 => some q1
set_option maxRecDepth 100000 in
set_option maxHeartbeats 4000000 in
theorem j_X2_fillCodes_22 {sk : List sm_Sh} (hx : sm_ext skX sk) (F : Nat) (a1 : Nat) (ha1 : sm_codes sk a1) : ∀ (y1 : Int32) (y2 : Int32) (y3 : Int32) (M : sm_M) (r : sm_M), f_X2_fillCodes_22 F a1 y1 y2 y3 M = some r → sm_J (md_X2_fillCodes, 3, sk, .inl none, r) 22 [none, none, none] [.int y3, .int y2, .int y1, .ref a1] M := by
  intro y1 y2 y3  M r h
  unfold f_X2_fillCodes_22 at h
  obtain ⟨q1, e1, h⟩ := sm_bd h
  refine sm_callV (q := 25) (d' := 2) [] [.int y1, .int y2, .int y3] d_X2_fillCodes_22 rfl lk_X2_36 ha1.1 rfl rfl rfl (Nat.le_of_ble_eq_true rfl) (Nat.le_of_ble_eq_true rfl) (c_X1_fill hx F a1 ha1 y1 y2 y3 M _ e1) (st9 := []) rfl ?_
  obtain rfl := Option.some.inj h
  exact sm_vret d_X2_fillCodes_25 rfl rfl rfl
def f_X2_fillCodes (F : Nat) (a1 : Nat) (x2 : Int32) (M : sm_M) : Option (sm_M) := if (M.1 1 1) = (1 : Int32) then (f_X2_fillCodes_22 F a1 (M.1 1 1) x2 x2 M) else (f_X2_fillCodes_22 F a1 (M.1 1 1) x2 (M.1 1 3) M)
set_option maxRecDepth 100000 in
set_option maxHeartbeats 4000000 in
theorem j_X2_fillCodes {sk : List sm_Sh} (hx : sm_ext skX sk) (F : Nat) (a1 : Nat) (ha1 : sm_codes sk a1) : ∀ (x2 : Int32) (M : sm_M) (r : sm_M), f_X2_fillCodes F a1 x2 M = some r → sm_J (md_X2_fillCodes, 3, sk, .inl none, r) 0 [some (.ref 1), some (.ref a1), some (.int x2)] [] M := by
  intro x2  M r h
  unfold f_X2_fillCodes at h
  refine sm_aload_n (q := 1) d_X2_fillCodes_0 rfl rfl ?_
  refine sm_aload_n (q := 2) d_X2_fillCodes_1 rfl rfl ?_
  refine sm_geti (q := 5) d_X2_fillCodes_2 rfl fl_X2_22 (hx sx_1) rfl ?_
  refine sm_iload_n (q := 6) d_X2_fillCodes_5 rfl rfl ?_
  refine sm_aload_n (q := 7) d_X2_fillCodes_6 rfl rfl ?_
  refine sm_geti (q := 10) d_X2_fillCodes_7 rfl fl_X2_22 (hx sx_1) rfl ?_
  refine sm_iconst (q := 11) d_X2_fillCodes_10 rfl ci_1 ?_
  refine sm_icmp_ne (q := 14) (t := 18) d_X2_fillCodes_11 rfl rfl (fun c1 => ?_) (fun c1 => ?_)
  · replace h := sm_if c1 h
    refine sm_aload_n (q := 19) d_X2_fillCodes_18 rfl rfl ?_
    refine sm_geti (q := 22) d_X2_fillCodes_19 rfl fl_X2_29 (hx sx_1) rfl ?_
    refine sm_fg [0, 1, 2] ?_
    exact j_X2_fillCodes_22 hx F a1 ha1 (M.1 1 1) x2 (M.1 1 3) M _ h
  · replace h := sm_it c1 h
    refine sm_iload_n (q := 15) d_X2_fillCodes_14 rfl rfl ?_
    refine sm_goto (t := 22) d_X2_fillCodes_15 rfl ?_
    refine sm_fg [0, 1, 2] ?_
    exact j_X2_fillCodes_22 hx F a1 ha1 (M.1 1 1) x2 x2 M _ h
theorem c_X2_fillCodes {sk : List sm_Sh} (hx : sm_ext skX sk) (F : Nat) (a1 : Nat) (ha1 : sm_codes sk a1) (x2 : Int32) (M : sm_M) (r : sm_M) (h : f_X2_fillCodes F a1 x2 M = some r) : sm_Ct yX2_fillCodes md_X2_fillCodes 3 sk [.ref 1, .ref a1, .int x2] M (.inl none) r := sm_enter 0 pn_X2 rfl (Nat.le_of_ble_eq_true rfl) rfl (j_X2_fillCodes hx F a1 ha1 x2 M r h)
/-! UniversalCycles$Family.become(III)V -/
theorem d_X2_become_0 : decode cX2_become 0 = .ok (.aload_n 0, 1) := by decide +kernel
theorem d_X2_become_1 : decode cX2_become 1 = .ok (.iload_n 1, 1) := by decide +kernel
theorem d_X2_become_2 : decode cX2_become 2 = .ok (.putfield 22, 3) := by decide +kernel
theorem d_X2_become_5 : decode cX2_become 5 = .ok (.aload_n 0, 1) := by decide +kernel
theorem d_X2_become_6 : decode cX2_become 6 = .ok (.iload_n 2, 1) := by decide +kernel
theorem d_X2_become_7 : decode cX2_become 7 = .ok (.putfield 26, 3) := by decide +kernel
theorem d_X2_become_10 : decode cX2_become 10 = .ok (.aload_n 0, 1) := by decide +kernel
theorem d_X2_become_11 : decode cX2_become 11 = .ok (.iload_n 3, 1) := by decide +kernel
theorem d_X2_become_12 : decode cX2_become 12 = .ok (.putfield 29, 3) := by decide +kernel
theorem d_X2_become_15 : decode cX2_become 15 = .ok (.aload_n 0, 1) := by decide +kernel
theorem d_X2_become_16 : decode cX2_become 16 = .ok (.aload_n 0, 1) := by decide +kernel
theorem d_X2_become_17 : decode cX2_become 17 = .ok (.getfield 12, 3) := by decide +kernel
theorem d_X2_become_20 : decode cX2_become 20 = .ok (.aload_n 0, 1) := by decide +kernel
theorem d_X2_become_21 : decode cX2_become 21 = .ok (.getfield 26, 3) := by decide +kernel
theorem d_X2_become_24 : decode cX2_become 24 = .ok (.invokevirtual 32, 3) := by decide +kernel
theorem d_X2_become_27 : decode cX2_become 27 = .ok (.return_, 1) := by decide +kernel
def f_X2_become (F : Nat) (x1 : Int32) (x2 : Int32) (x3 : Int32) (M : sm_M) : Option (sm_M) := (f_X2_fillCodes F 2 (((sm_mi (sm_mi (sm_mi M 1 1 x1) 1 2 x2) 1 3 x3)).1 1 2) (sm_mi (sm_mi (sm_mi M 1 1 x1) 1 2 x2) 1 3 x3)).bind fun q1 => some q1
set_option maxRecDepth 100000 in
set_option maxHeartbeats 4000000 in
theorem j_X2_become {sk : List sm_Sh} (hx : sm_ext skX sk) (F : Nat) : ∀ (x1 : Int32) (x2 : Int32) (x3 : Int32) (M : sm_M) (r : sm_M), f_X2_become F x1 x2 x3 M = some r → sm_J (md_X2_become, 4, sk, .inl none, r) 0 [some (.ref 1), some (.int x1), some (.int x2), some (.int x3)] [] M := by
  intro x1 x2 x3  M r h
  unfold f_X2_become at h
  refine sm_aload_n (q := 1) d_X2_become_0 rfl rfl ?_
  refine sm_iload_n (q := 2) d_X2_become_1 rfl rfl ?_
  refine sm_puti (q := 5) d_X2_become_2 rfl fw_X2_22 (hx sx_1) rfl rfl rfl ?_
  refine sm_aload_n (q := 6) d_X2_become_5 rfl rfl ?_
  refine sm_iload_n (q := 7) d_X2_become_6 rfl rfl ?_
  refine sm_puti (q := 10) d_X2_become_7 rfl fw_X2_26 (hx sx_1) rfl rfl rfl ?_
  refine sm_aload_n (q := 11) d_X2_become_10 rfl rfl ?_
  refine sm_iload_n (q := 12) d_X2_become_11 rfl rfl ?_
  refine sm_puti (q := 15) d_X2_become_12 rfl fw_X2_29 (hx sx_1) rfl rfl rfl ?_
  refine sm_aload_n (q := 16) d_X2_become_15 rfl rfl ?_
  refine sm_aload_n (q := 17) d_X2_become_16 rfl rfl ?_
  refine sm_getr (q := 20) d_X2_become_17 rfl fl_X2_12 (hx sx_1) rfl ?_
  refine sm_aload_n (q := 21) d_X2_become_20 rfl rfl ?_
  refine sm_geti (q := 24) d_X2_become_21 rfl fl_X2_26 (hx sx_1) rfl ?_
  obtain ⟨q1, e1, h⟩ := sm_bd h
  refine sm_callV (q := 27) (d' := 3) [] [.ref 2, .int (((sm_mi (sm_mi (sm_mi M 1 1 x1) 1 2 x2) 1 3 x3)).1 1 2)] d_X2_become_24 rfl lk_X2_32 (hx sx_1) rfl rfl rfl (Nat.le_of_ble_eq_true rfl) (Nat.le_of_ble_eq_true rfl) (c_X2_fillCodes hx F 2 ⟨hx sx_2, hx sx_3, hx sx_4⟩ (((sm_mi (sm_mi (sm_mi M 1 1 x1) 1 2 x2) 1 3 x3)).1 1 2) (sm_mi (sm_mi (sm_mi M 1 1 x1) 1 2 x2) 1 3 x3) _ e1) (st9 := []) rfl ?_
  obtain rfl := Option.some.inj h
  exact sm_vret d_X2_become_27 rfl rfl rfl
theorem c_X2_become {sk : List sm_Sh} (hx : sm_ext skX sk) (F : Nat) (x1 : Int32) (x2 : Int32) (x3 : Int32) (M : sm_M) (r : sm_M) (h : f_X2_become F x1 x2 x3 M = some r) : sm_Ct yX2_become md_X2_become 4 sk [.ref 1, .int x1, .int x2, .int x3] M (.inl none) r := sm_enter 0 pn_X2 rfl (Nat.le_of_ble_eq_true rfl) rfl (j_X2_become hx F x1 x2 x3 M r h)
/-! UniversalCycles$Codes.withoutLast(I)I -/
theorem d_X1_withoutLast_0 : decode cX1_withoutLast 0 = .ok (.iload_n 0, 1) := by decide +kernel
theorem d_X1_withoutLast_1 : decode cX1_withoutLast 1 = .ok (.iconst 3, 1) := by decide +kernel
theorem d_X1_withoutLast_2 : decode cX1_withoutLast 2 = .ok (.ishr, 1) := by decide +kernel
theorem d_X1_withoutLast_3 : decode cX1_withoutLast 3 = .ok (.ireturn, 1) := by decide +kernel
def f_X1_withoutLast (F : Nat) (x0 : Int32) (M : sm_M) : Option (Int32) := some (x0 >>> ((3 : Int32) &&& 31))
set_option maxRecDepth 100000 in
set_option maxHeartbeats 4000000 in
theorem j_X1_withoutLast {sk : List sm_Sh} (hx : sm_ext skX sk) (F : Nat) : ∀ (x0 : Int32) (M : sm_M) (r : Int32), f_X1_withoutLast F x0 M = some r → sm_J (md_X1_withoutLast, 0, sk, .inl (some (.int r)), M) 0 [some (.int x0)] [] M := by
  intro x0  M r h
  unfold f_X1_withoutLast at h
  refine sm_iload_n (q := 1) d_X1_withoutLast_0 rfl rfl ?_
  refine sm_iconst (q := 2) d_X1_withoutLast_1 rfl ci_3 ?_
  refine sm_ishr (q := 3) d_X1_withoutLast_2 rfl ?_
  obtain rfl := Option.some.inj h
  exact sm_iret d_X1_withoutLast_3 rfl rfl rfl rfl
theorem c_X1_withoutLast {sk : List sm_Sh} (hx : sm_ext skX sk) (F : Nat) (x0 : Int32) (M : sm_M) (r : Int32) (h : f_X1_withoutLast F x0 M = some r) : sm_Ct yX1_withoutLast md_X1_withoutLast 0 sk [.int x0] M (.inl (some (.int r))) M := sm_enter 0 pn_X1 rfl (Nat.le_of_ble_eq_true rfl) rfl (j_X1_withoutLast hx F x0 M r h)
/-! UniversalCycles$Codes.numberAt(III)I -/
theorem d_X1_numberAt_0 : decode cX1_numberAt 0 = .ok (.iload_n 0, 1) := by decide +kernel
theorem d_X1_numberAt_1 : decode cX1_numberAt 1 = .ok (.iconst 3, 1) := by decide +kernel
theorem d_X1_numberAt_2 : decode cX1_numberAt 2 = .ok (.iload_n 1, 1) := by decide +kernel
theorem d_X1_numberAt_3 : decode cX1_numberAt 3 = .ok (.iconst 1, 1) := by decide +kernel
theorem d_X1_numberAt_4 : decode cX1_numberAt 4 = .ok (.isub, 1) := by decide +kernel
theorem d_X1_numberAt_5 : decode cX1_numberAt 5 = .ok (.iload_n 2, 1) := by decide +kernel
theorem d_X1_numberAt_6 : decode cX1_numberAt 6 = .ok (.isub, 1) := by decide +kernel
theorem d_X1_numberAt_7 : decode cX1_numberAt 7 = .ok (.imul, 1) := by decide +kernel
theorem d_X1_numberAt_8 : decode cX1_numberAt 8 = .ok (.ishr, 1) := by decide +kernel
theorem d_X1_numberAt_9 : decode cX1_numberAt 9 = .ok (.bipush 7, 2) := by decide +kernel
theorem d_X1_numberAt_11 : decode cX1_numberAt 11 = .ok (.iand, 1) := by decide +kernel
theorem d_X1_numberAt_12 : decode cX1_numberAt 12 = .ok (.ireturn, 1) := by decide +kernel
def f_X1_numberAt (F : Nat) (x0 : Int32) (x1 : Int32) (x2 : Int32) (M : sm_M) : Option (Int32) := some ((x0 >>> (((3 : Int32) * ((x1 - (1 : Int32)) - x2)) &&& 31)) &&& (7 : Int32))
set_option maxRecDepth 100000 in
set_option maxHeartbeats 4000000 in
theorem j_X1_numberAt {sk : List sm_Sh} (hx : sm_ext skX sk) (F : Nat) : ∀ (x0 : Int32) (x1 : Int32) (x2 : Int32) (M : sm_M) (r : Int32), f_X1_numberAt F x0 x1 x2 M = some r → sm_J (md_X1_numberAt, 0, sk, .inl (some (.int r)), M) 0 [some (.int x0), some (.int x1), some (.int x2)] [] M := by
  intro x0 x1 x2  M r h
  unfold f_X1_numberAt at h
  refine sm_iload_n (q := 1) d_X1_numberAt_0 rfl rfl ?_
  refine sm_iconst (q := 2) d_X1_numberAt_1 rfl ci_3 ?_
  refine sm_iload_n (q := 3) d_X1_numberAt_2 rfl rfl ?_
  refine sm_iconst (q := 4) d_X1_numberAt_3 rfl ci_1 ?_
  refine sm_isub (q := 5) d_X1_numberAt_4 rfl ?_
  refine sm_iload_n (q := 6) d_X1_numberAt_5 rfl rfl ?_
  refine sm_isub (q := 7) d_X1_numberAt_6 rfl ?_
  refine sm_imul (q := 8) d_X1_numberAt_7 rfl ?_
  refine sm_ishr (q := 9) d_X1_numberAt_8 rfl ?_
  refine sm_bipush (q := 11) d_X1_numberAt_9 rfl cb_7 ?_
  refine sm_iand (q := 12) d_X1_numberAt_11 rfl ?_
  obtain rfl := Option.some.inj h
  exact sm_iret d_X1_numberAt_12 rfl rfl rfl rfl
theorem c_X1_numberAt {sk : List sm_Sh} (hx : sm_ext skX sk) (F : Nat) (x0 : Int32) (x1 : Int32) (x2 : Int32) (M : sm_M) (r : Int32) (h : f_X1_numberAt F x0 x1 x2 M = some r) : sm_Ct yX1_numberAt md_X1_numberAt 0 sk [.int x0, .int x1, .int x2] M (.inl (some (.int r))) M := sm_enter 0 pn_X1 rfl (Nat.le_of_ble_eq_true rfl) rfl (j_X1_numberAt hx F x0 x1 x2 M r h)
/-! UniversalCycles$Codes.orderPattern(II)I -/
theorem d_X1_orderPattern_0 : decode cX1_orderPattern 0 = .ok (.iload_n 0, 1) := by decide +kernel
theorem d_X1_orderPattern_1 : decode cX1_orderPattern 1 = .ok (.iload_n 1, 1) := by decide +kernel
theorem d_X1_orderPattern_2 : decode cX1_orderPattern 2 = .ok (.invokestatic 18, 3) := by decide +kernel
theorem d_X1_orderPattern_5 : decode cX1_orderPattern 5 = .ok (.istore_n 2, 1) := by decide +kernel
theorem d_X1_orderPattern_6 : decode cX1_orderPattern 6 = .ok (.iconst 0, 1) := by decide +kernel
theorem d_X1_orderPattern_7 : decode cX1_orderPattern 7 = .ok (.istore_n 3, 1) := by decide +kernel
theorem d_X1_orderPattern_8 : decode cX1_orderPattern 8 = .ok (.iconst 0, 1) := by decide +kernel
theorem d_X1_orderPattern_9 : decode cX1_orderPattern 9 = .ok (.istore 4, 2) := by decide +kernel
theorem d_X1_orderPattern_11 : decode cX1_orderPattern 11 = .ok (.iload 4, 2) := by decide +kernel
theorem d_X1_orderPattern_13 : decode cX1_orderPattern 13 = .ok (.iload_n 1, 1) := by decide +kernel
theorem d_X1_orderPattern_14 : decode cX1_orderPattern 14 = .ok (.if_icmp .ge 34, 3) := by decide +kernel
theorem d_X1_orderPattern_17 : decode cX1_orderPattern 17 = .ok (.iconst 1, 1) := by decide +kernel
theorem d_X1_orderPattern_18 : decode cX1_orderPattern 18 = .ok (.iload_n 0, 1) := by decide +kernel
theorem d_X1_orderPattern_19 : decode cX1_orderPattern 19 = .ok (.iload_n 1, 1) := by decide +kernel
theorem d_X1_orderPattern_20 : decode cX1_orderPattern 20 = .ok (.iload 4, 2) := by decide +kernel
theorem d_X1_orderPattern_22 : decode cX1_orderPattern 22 = .ok (.invokestatic 22, 3) := by decide +kernel
theorem d_X1_orderPattern_25 : decode cX1_orderPattern 25 = .ok (.ishl, 1) := by decide +kernel
theorem d_X1_orderPattern_26 : decode cX1_orderPattern 26 = .ok (.iconst 1, 1) := by decide +kernel
theorem d_X1_orderPattern_27 : decode cX1_orderPattern 27 = .ok (.isub, 1) := by decide +kernel
theorem d_X1_orderPattern_28 : decode cX1_orderPattern 28 = .ok (.istore 5, 2) := by decide +kernel
theorem d_X1_orderPattern_30 : decode cX1_orderPattern 30 = .ok (.iload_n 3, 1) := by decide +kernel
theorem d_X1_orderPattern_31 : decode cX1_orderPattern 31 = .ok (.iload_n 2, 1) := by decide +kernel
theorem d_X1_orderPattern_32 : decode cX1_orderPattern 32 = .ok (.iload 5, 2) := by decide +kernel
theorem d_X1_orderPattern_34 : decode cX1_orderPattern 34 = .ok (.iand, 1) := by decide +kernel
theorem d_X1_orderPattern_35 : decode cX1_orderPattern 35 = .ok (.invokestatic 26, 3) := by decide +kernel
theorem d_X1_orderPattern_38 : decode cX1_orderPattern 38 = .ok (.invokestatic 32, 3) := by decide +kernel
theorem d_X1_orderPattern_41 : decode cX1_orderPattern 41 = .ok (.istore_n 3, 1) := by decide +kernel
theorem d_X1_orderPattern_42 : decode cX1_orderPattern 42 = .ok (.iinc 4 1, 3) := by decide +kernel
theorem d_X1_orderPattern_45 : decode cX1_orderPattern 45 = .ok (.goto (-34), 3) := by decide +kernel
theorem d_X1_orderPattern_48 : decode cX1_orderPattern 48 = .ok (.iload_n 3, 1) := by decide +kernel
theorem d_X1_orderPattern_49 : decode cX1_orderPattern 49 = .ok (.ireturn, 1) := by decide +kernel
def f_X1_orderPattern_11b (F : Nat) (kb11 : Int32 → Int32 → Int32 → Int32 → Int32 → sm_M → Option (Int32)) (x0 : Int32) (x1 : Int32) (x2 : Int32) (x3 : Int32) (x4 : Int32) (M : sm_M) : Option (Int32) := if x1 ≤ x4 then (some x3) else ((f_X1_numberAt F x0 x1 x4 M).bind fun q2 => (f_J6_bitCount_0f7a4 F (x2 &&& (((1 : Int32) <<< (q2 &&& 31)) - (1 : Int32))) M).bind fun q3 => (f_X1_withLast F x3 q3 M).bind fun q4 => kb11 x0 x1 x2 q4 (x4 + 1) M)
set_option maxRecDepth 100000 in
set_option maxHeartbeats 4000000 in
theorem j_X1_orderPattern_11b {sk : List sm_Sh} (hx : sm_ext skX sk) (F : Nat) (kb11 : Int32 → Int32 → Int32 → Int32 → Int32 → sm_M → Option (Int32)) (hkb11 : ∀ (x0 : Int32) (x1 : Int32) (x2 : Int32) (x3 : Int32) (x4 : Int32) (M : sm_M) (r : Int32), kb11 x0 x1 x2 x3 x4 M = some r → sm_J (md_X1_orderPattern, 1, sk, .inl (some (.int r)), M) 11 [some (.int x0), some (.int x1), some (.int x2), some (.int x3), some (.int x4), none] [] M) : ∀ (x0 : Int32) (x1 : Int32) (x2 : Int32) (x3 : Int32) (x4 : Int32) (M : sm_M) (r : Int32), f_X1_orderPattern_11b F kb11 x0 x1 x2 x3 x4 M = some r → sm_J (md_X1_orderPattern, 1, sk, .inl (some (.int r)), M) 11 [some (.int x0), some (.int x1), some (.int x2), some (.int x3), some (.int x4), none] [] M := by
  intro x0 x1 x2 x3 x4  M r h
  unfold f_X1_orderPattern_11b at h
  refine sm_iload (q := 13) d_X1_orderPattern_11 rfl rfl ?_
  refine sm_iload_n (q := 14) d_X1_orderPattern_13 rfl rfl ?_
  refine sm_icmp_ge (q := 17) (t := 48) d_X1_orderPattern_14 rfl rfl (fun c1 => ?_) (fun c1 => ?_)
  · replace h := sm_it c1 h
    refine sm_iload_n (q := 49) d_X1_orderPattern_48 rfl rfl ?_
    obtain rfl := Option.some.inj h
    exact sm_iret d_X1_orderPattern_49 rfl rfl rfl rfl
  · replace h := sm_if c1 h
    refine sm_iconst (q := 18) d_X1_orderPattern_17 rfl ci_1 ?_
    refine sm_iload_n (q := 19) d_X1_orderPattern_18 rfl rfl ?_
    refine sm_iload_n (q := 20) d_X1_orderPattern_19 rfl rfl ?_
    refine sm_iload (q := 22) d_X1_orderPattern_20 rfl rfl ?_
    obtain ⟨q2, e2, h⟩ := sm_bd h
    refine sm_callS (q := 25) (d' := 0) [.int (1 : Int32)] [.int x0, .int x1, .int x4] d_X1_orderPattern_22 rfl lk_X1_22 rfl (Nat.le_of_ble_eq_true rfl) (Nat.le_of_ble_eq_true rfl) (c_X1_numberAt hx F x0 x1 x4 M _ e2) (st9 := [.int q2, .int (1 : Int32)]) rfl ?_
    refine sm_ishl (q := 26) d_X1_orderPattern_25 rfl ?_
    refine sm_iconst (q := 27) d_X1_orderPattern_26 rfl ci_1 ?_
    refine sm_isub (q := 28) d_X1_orderPattern_27 rfl ?_
    refine sm_istore (q := 30) (lt := [some (.int x0), some (.int x1), some (.int x2), some (.int x3), some (.int x4), some (.int (((1 : Int32) <<< (q2 &&& 31)) - (1 : Int32)))]) d_X1_orderPattern_28 rfl (Nat.le_of_ble_eq_true rfl) rfl rfl ?_
    refine sm_iload_n (q := 31) d_X1_orderPattern_30 rfl rfl ?_
    refine sm_iload_n (q := 32) d_X1_orderPattern_31 rfl rfl ?_
    refine sm_iload (q := 34) d_X1_orderPattern_32 rfl rfl ?_
    refine sm_iand (q := 35) d_X1_orderPattern_34 rfl ?_
    obtain ⟨q3, e3, h⟩ := sm_bd h
    refine sm_callS (q := 38) (d' := 0) [.int x3] [.int (x2 &&& (((1 : Int32) <<< (q2 &&& 31)) - (1 : Int32)))] d_X1_orderPattern_35 rfl lk_X1_26 rfl (Nat.le_of_ble_eq_true rfl) (Nat.le_of_ble_eq_true rfl) (c_J6_bitCount_0f7a4 hx F (x2 &&& (((1 : Int32) <<< (q2 &&& 31)) - (1 : Int32))) M _ e3) (st9 := [.int q3, .int x3]) rfl ?_
    obtain ⟨q4, e4, h⟩ := sm_bd h
    refine sm_callS (q := 41) (d' := 0) [] [.int x3, .int q3] d_X1_orderPattern_38 rfl lk_X1_32 rfl (Nat.le_of_ble_eq_true rfl) (Nat.le_of_ble_eq_true rfl) (c_X1_withLast hx F x3 q3 M _ e4) (st9 := [.int q4]) rfl ?_
    refine sm_istore_n (q := 42) (lt := [some (.int x0), some (.int x1), some (.int x2), some (.int q4), some (.int x4), some (.int (((1 : Int32) <<< (q2 &&& 31)) - (1 : Int32)))]) d_X1_orderPattern_41 rfl (Nat.le_of_ble_eq_true rfl) rfl rfl ?_
    refine sm_iinc (q := 45) (v := (x4 + 1)) (lt := [some (.int x0), some (.int x1), some (.int x2), some (.int q4), some (.int (x4 + 1)), some (.int (((1 : Int32) <<< (q2 &&& 31)) - (1 : Int32)))]) d_X1_orderPattern_42 rfl rfl (ii_1 _) (Nat.le_of_ble_eq_true rfl) rfl rfl ?_
    refine sm_goto (t := 11) d_X1_orderPattern_45 rfl ?_
    refine sm_fg [5] ?_
    exact hkb11 x0 x1 x2 q4 (x4 + 1) M _ h
def f_X1_orderPattern_11 (F : Nat) (n : Nat) : Int32 → Int32 → Int32 → Int32 → Int32 → sm_M → Option (Int32) := match n with
 | 0 => fun _ _ _ _ _ _ => none
 | n + 1 => f_X1_orderPattern_11b F (f_X1_orderPattern_11 F n)
theorem j_X1_orderPattern_11 {sk : List sm_Sh} (hx : sm_ext skX sk) (F : Nat) : ∀ (n : Nat) (x0 : Int32) (x1 : Int32) (x2 : Int32) (x3 : Int32) (x4 : Int32) (M : sm_M) (r : Int32), f_X1_orderPattern_11 F n x0 x1 x2 x3 x4 M = some r → sm_J (md_X1_orderPattern, 1, sk, .inl (some (.int r)), M) 11 [some (.int x0), some (.int x1), some (.int x2), some (.int x3), some (.int x4), none] [] M := by
  intro n
  induction n with
  | zero => intro x0 x1 x2 x3 x4  M r h; exact nomatch (show (none : Option (Int32)) = some r from h)
  | succ n ih => exact j_X1_orderPattern_11b hx F (f_X1_orderPattern_11 F n) ih
def f_X1_orderPattern (F : Nat) (x0 : Int32) (x1 : Int32) (M : sm_M) : Option (Int32) := (f_X1_numberMask F x0 x1 M).bind fun q1 => f_X1_orderPattern_11 F F x0 x1 q1 (0 : Int32) (0 : Int32) M
set_option maxRecDepth 100000 in
set_option maxHeartbeats 4000000 in
theorem j_X1_orderPattern {sk : List sm_Sh} (hx : sm_ext skX sk) (F : Nat) : ∀ (x0 : Int32) (x1 : Int32) (M : sm_M) (r : Int32), f_X1_orderPattern F x0 x1 M = some r → sm_J (md_X1_orderPattern, 1, sk, .inl (some (.int r)), M) 0 [some (.int x0), some (.int x1), none, none, none, none] [] M := by
  intro x0 x1  M r h
  unfold f_X1_orderPattern at h
  refine sm_iload_n (q := 1) d_X1_orderPattern_0 rfl rfl ?_
  refine sm_iload_n (q := 2) d_X1_orderPattern_1 rfl rfl ?_
  obtain ⟨q1, e1, h⟩ := sm_bd h
  refine sm_callS (q := 5) (d' := 0) [] [.int x0, .int x1] d_X1_orderPattern_2 rfl lk_X1_18 rfl (Nat.le_of_ble_eq_true rfl) (Nat.le_of_ble_eq_true rfl) (c_X1_numberMask hx F x0 x1 M _ e1) (st9 := [.int q1]) rfl ?_
  refine sm_istore_n (q := 6) (lt := [some (.int x0), some (.int x1), some (.int q1), none, none, none]) d_X1_orderPattern_5 rfl (Nat.le_of_ble_eq_true rfl) rfl rfl ?_
  refine sm_iconst (q := 7) d_X1_orderPattern_6 rfl ci_0 ?_
  refine sm_istore_n (q := 8) (lt := [some (.int x0), some (.int x1), some (.int q1), some (.int (0 : Int32)), none, none]) d_X1_orderPattern_7 rfl (Nat.le_of_ble_eq_true rfl) rfl rfl ?_
  refine sm_iconst (q := 9) d_X1_orderPattern_8 rfl ci_0 ?_
  refine sm_istore (q := 11) (lt := [some (.int x0), some (.int x1), some (.int q1), some (.int (0 : Int32)), some (.int (0 : Int32)), none]) d_X1_orderPattern_9 rfl (Nat.le_of_ble_eq_true rfl) rfl rfl ?_
  exact j_X1_orderPattern_11 hx F F x0 x1 q1 (0 : Int32) (0 : Int32) M _ h
theorem c_X1_orderPattern {sk : List sm_Sh} (hx : sm_ext skX sk) (F : Nat) (x0 : Int32) (x1 : Int32) (M : sm_M) (r : Int32) (h : f_X1_orderPattern F x0 x1 M = some r) : sm_Ct yX1_orderPattern md_X1_orderPattern 1 sk [.int x0, .int x1] M (.inl (some (.int r))) M := sm_enter 4 pn_X1 rfl (Nat.le_of_ble_eq_true rfl) rfl (j_X1_orderPattern hx F x0 x1 M r h)
/-! UniversalCycles$Codes.indexOf(I)I -/
theorem d_X1_indexOf_0 : decode cX1_indexOf 0 = .ok (.iconst 0, 1) := by decide +kernel
theorem d_X1_indexOf_1 : decode cX1_indexOf 1 = .ok (.istore_n 2, 1) := by decide +kernel
theorem d_X1_indexOf_2 : decode cX1_indexOf 2 = .ok (.aload_n 0, 1) := by decide +kernel
theorem d_X1_indexOf_3 : decode cX1_indexOf 3 = .ok (.getfield 35, 3) := by decide +kernel
theorem d_X1_indexOf_6 : decode cX1_indexOf 6 = .ok (.iconst 1, 1) := by decide +kernel
theorem d_X1_indexOf_7 : decode cX1_indexOf 7 = .ok (.isub, 1) := by decide +kernel
theorem d_X1_indexOf_8 : decode cX1_indexOf 8 = .ok (.istore_n 3, 1) := by decide +kernel
theorem d_X1_indexOf_9 : decode cX1_indexOf 9 = .ok (.iconst 0, 1) := by decide +kernel
theorem d_X1_indexOf_10 : decode cX1_indexOf 10 = .ok (.istore 4, 2) := by decide +kernel
theorem d_X1_indexOf_12 : decode cX1_indexOf 12 = .ok (.iload 4, 2) := by decide +kernel
theorem d_X1_indexOf_14 : decode cX1_indexOf 14 = .ok (.sipush 200, 3) := by decide +kernel
theorem d_X1_indexOf_17 : decode cX1_indexOf 17 = .ok (.if_icmp .ge 59, 3) := by decide +kernel
theorem d_X1_indexOf_20 : decode cX1_indexOf 20 = .ok (.iload_n 2, 1) := by decide +kernel
theorem d_X1_indexOf_21 : decode cX1_indexOf 21 = .ok (.iload_n 3, 1) := by decide +kernel
theorem d_X1_indexOf_22 : decode cX1_indexOf 22 = .ok (.if_icmp .gt 54, 3) := by decide +kernel
theorem d_X1_indexOf_25 : decode cX1_indexOf 25 = .ok (.iload_n 2, 1) := by decide +kernel
theorem d_X1_indexOf_26 : decode cX1_indexOf 26 = .ok (.iload_n 3, 1) := by decide +kernel
theorem d_X1_indexOf_27 : decode cX1_indexOf 27 = .ok (.iadd, 1) := by decide +kernel
theorem d_X1_indexOf_28 : decode cX1_indexOf 28 = .ok (.iconst 1, 1) := by decide +kernel
theorem d_X1_indexOf_29 : decode cX1_indexOf 29 = .ok (.ishr, 1) := by decide +kernel
theorem d_X1_indexOf_30 : decode cX1_indexOf 30 = .ok (.istore 5, 2) := by decide +kernel
theorem d_X1_indexOf_32 : decode cX1_indexOf 32 = .ok (.aload_n 0, 1) := by decide +kernel
theorem d_X1_indexOf_33 : decode cX1_indexOf 33 = .ok (.getfield 9, 3) := by decide +kernel
theorem d_X1_indexOf_36 : decode cX1_indexOf 36 = .ok (.iload 5, 2) := by decide +kernel
theorem d_X1_indexOf_38 : decode cX1_indexOf 38 = .ok (.iaload, 1) := by decide +kernel
theorem d_X1_indexOf_39 : decode cX1_indexOf 39 = .ok (.iload_n 1, 1) := by decide +kernel
theorem d_X1_indexOf_40 : decode cX1_indexOf 40 = .ok (.if_icmp .ne 6, 3) := by decide +kernel
theorem d_X1_indexOf_43 : decode cX1_indexOf 43 = .ok (.iload 5, 2) := by decide +kernel
theorem d_X1_indexOf_45 : decode cX1_indexOf 45 = .ok (.ireturn, 1) := by decide +kernel
theorem d_X1_indexOf_46 : decode cX1_indexOf 46 = .ok (.aload_n 0, 1) := by decide +kernel
theorem d_X1_indexOf_47 : decode cX1_indexOf 47 = .ok (.getfield 9, 3) := by decide +kernel
theorem d_X1_indexOf_50 : decode cX1_indexOf 50 = .ok (.iload 5, 2) := by decide +kernel
theorem d_X1_indexOf_52 : decode cX1_indexOf 52 = .ok (.iaload, 1) := by decide +kernel
theorem d_X1_indexOf_53 : decode cX1_indexOf 53 = .ok (.iload_n 1, 1) := by decide +kernel
theorem d_X1_indexOf_54 : decode cX1_indexOf 54 = .ok (.if_icmp .ge 11, 3) := by decide +kernel
theorem d_X1_indexOf_57 : decode cX1_indexOf 57 = .ok (.iload 5, 2) := by decide +kernel
theorem d_X1_indexOf_59 : decode cX1_indexOf 59 = .ok (.iconst 1, 1) := by decide +kernel
theorem d_X1_indexOf_60 : decode cX1_indexOf 60 = .ok (.iadd, 1) := by decide +kernel
theorem d_X1_indexOf_61 : decode cX1_indexOf 61 = .ok (.istore_n 2, 1) := by decide +kernel
theorem d_X1_indexOf_62 : decode cX1_indexOf 62 = .ok (.goto 8, 3) := by decide +kernel
theorem d_X1_indexOf_65 : decode cX1_indexOf 65 = .ok (.iload 5, 2) := by decide +kernel
theorem d_X1_indexOf_67 : decode cX1_indexOf 67 = .ok (.iconst 1, 1) := by decide +kernel
theorem d_X1_indexOf_68 : decode cX1_indexOf 68 = .ok (.isub, 1) := by decide +kernel
theorem d_X1_indexOf_69 : decode cX1_indexOf 69 = .ok (.istore_n 3, 1) := by decide +kernel
theorem d_X1_indexOf_70 : decode cX1_indexOf 70 = .ok (.iinc 4 1, 3) := by decide +kernel
theorem d_X1_indexOf_73 : decode cX1_indexOf 73 = .ok (.goto (-61), 3) := by decide +kernel
theorem d_X1_indexOf_76 : decode cX1_indexOf 76 = .ok (.iconst (-1), 1) := by decide +kernel
theorem d_X1_indexOf_77 : decode cX1_indexOf 77 = .ok (.ireturn, 1) := by decide +kernel
def f_X1_indexOf_70 (F : Nat) (a0 : Nat) (kb12 : Int32 → Int32 → Int32 → Int32 → sm_M → Option (Int32)) (x1 : Int32) (x2 : Int32) (x3 : Int32) (x4 : Int32) (M : sm_M) : Option (Int32) := kb12 x1 x2 x3 (x4 + 1) M
set_option maxRecDepth 100000 in
set_option maxHeartbeats 4000000 in
theorem j_X1_indexOf_70 {sk : List sm_Sh} (hx : sm_ext skX sk) (F : Nat) (a0 : Nat) (ha0 : sm_codes sk a0) (kb12 : Int32 → Int32 → Int32 → Int32 → sm_M → Option (Int32)) (hkb12 : ∀ (x1 : Int32) (x2 : Int32) (x3 : Int32) (x4 : Int32) (M : sm_M) (r : Int32), kb12 x1 x2 x3 x4 M = some r → sm_J (md_X1_indexOf, 0, sk, .inl (some (.int r)), M) 12 [some (.ref a0), some (.int x1), some (.int x2), some (.int x3), some (.int x4), none] [] M) : ∀ (x1 : Int32) (x2 : Int32) (x3 : Int32) (x4 : Int32) (M : sm_M) (r : Int32), f_X1_indexOf_70 F a0 kb12 x1 x2 x3 x4 M = some r → sm_J (md_X1_indexOf, 0, sk, .inl (some (.int r)), M) 70 [some (.ref a0), some (.int x1), some (.int x2), some (.int x3), some (.int x4), none] [] M := by
  intro x1 x2 x3 x4  M r h
  unfold f_X1_indexOf_70 at h
  refine sm_iinc (q := 73) (v := (x4 + 1)) (lt := [some (.ref a0), some (.int x1), some (.int x2), some (.int x3), some (.int (x4 + 1)), none]) d_X1_indexOf_70 rfl rfl (ii_1 _) (Nat.le_of_ble_eq_true rfl) rfl rfl ?_
  refine sm_goto (t := 12) d_X1_indexOf_73 rfl ?_
  exact hkb12 x1 x2 x3 (x4 + 1) M _ h
def f_X1_indexOf_76 (F : Nat) (a0 : Nat) (M : sm_M) : Option (Int32) := some (-1 : Int32)
set_option maxRecDepth 100000 in
set_option maxHeartbeats 4000000 in
theorem j_X1_indexOf_76 {sk : List sm_Sh} (hx : sm_ext skX sk) (F : Nat) (a0 : Nat) (ha0 : sm_codes sk a0) : ∀ (M : sm_M) (r : Int32), f_X1_indexOf_76 F a0 M = some r → sm_J (md_X1_indexOf, 0, sk, .inl (some (.int r)), M) 76 [none, none, none, none, none, none] [] M := by
  intro   M r h
  unfold f_X1_indexOf_76 at h
  refine sm_iconst (q := 77) d_X1_indexOf_76 rfl ci_m1 ?_
  obtain rfl := Option.some.inj h
  exact sm_iret d_X1_indexOf_77 rfl rfl rfl rfl
def f_X1_indexOf_12b (F : Nat) (a0 : Nat) (kb12 : Int32 → Int32 → Int32 → Int32 → sm_M → Option (Int32)) (x1 : Int32) (x2 : Int32) (x3 : Int32) (x4 : Int32) (M : sm_M) : Option (Int32) := if (200 : Int32) ≤ x4 then (f_X1_indexOf_76 F a0 M) else (if x3 < x2 then (f_X1_indexOf_76 F a0 M) else (sm_g (sm_ib ((x2 + x3) >>> ((1 : Int32) &&& 31)) 200) (if (M.1 (a0 + 1) ((x2 + x3) >>> ((1 : Int32) &&& 31)).toNatClampNeg) = x1 then (some ((x2 + x3) >>> ((1 : Int32) &&& 31))) else (sm_g (sm_ib ((x2 + x3) >>> ((1 : Int32) &&& 31)) 200) (if x1 ≤ (M.1 (a0 + 1) ((x2 + x3) >>> ((1 : Int32) &&& 31)).toNatClampNeg) then (f_X1_indexOf_70 F a0 kb12 x1 x2 (((x2 + x3) >>> ((1 : Int32) &&& 31)) - (1 : Int32)) x4 M) else (f_X1_indexOf_70 F a0 kb12 x1 (((x2 + x3) >>> ((1 : Int32) &&& 31)) + (1 : Int32)) x3 x4 M))))))
set_option maxRecDepth 100000 in
set_option maxHeartbeats 4000000 in
theorem j_X1_indexOf_12b {sk : List sm_Sh} (hx : sm_ext skX sk) (F : Nat) (a0 : Nat) (ha0 : sm_codes sk a0) (kb12 : Int32 → Int32 → Int32 → Int32 → sm_M → Option (Int32)) (hkb12 : ∀ (x1 : Int32) (x2 : Int32) (x3 : Int32) (x4 : Int32) (M : sm_M) (r : Int32), kb12 x1 x2 x3 x4 M = some r → sm_J (md_X1_indexOf, 0, sk, .inl (some (.int r)), M) 12 [some (.ref a0), some (.int x1), some (.int x2), some (.int x3), some (.int x4), none] [] M) : ∀ (x1 : Int32) (x2 : Int32) (x3 : Int32) (x4 : Int32) (M : sm_M) (r : Int32), f_X1_indexOf_12b F a0 kb12 x1 x2 x3 x4 M = some r → sm_J (md_X1_indexOf, 0, sk, .inl (some (.int r)), M) 12 [some (.ref a0), some (.int x1), some (.int x2), some (.int x3), some (.int x4), none] [] M := by
  intro x1 x2 x3 x4  M r h
  unfold f_X1_indexOf_12b at h
  refine sm_iload (q := 14) d_X1_indexOf_12 rfl rfl ?_
  refine sm_sipush (q := 17) d_X1_indexOf_14 rfl cs_200 ?_
  refine sm_icmp_ge (q := 20) (t := 76) d_X1_indexOf_17 rfl rfl (fun c1 => ?_) (fun c1 => ?_)
  · replace h := sm_it c1 h
    refine sm_fg [0, 1, 2, 3, 4] ?_
    exact j_X1_indexOf_76 hx F a0 ha0 M _ h
  · replace h := sm_if c1 h
    refine sm_iload_n (q := 21) d_X1_indexOf_20 rfl rfl ?_
    refine sm_iload_n (q := 22) d_X1_indexOf_21 rfl rfl ?_
    refine sm_icmp_gt (q := 25) (t := 76) d_X1_indexOf_22 rfl rfl (fun c2 => ?_) (fun c2 => ?_)
    · replace h := sm_it c2 h
      refine sm_fg [0, 1, 2, 3, 4] ?_
      exact j_X1_indexOf_76 hx F a0 ha0 M _ h
    · replace h := sm_if c2 h
      refine sm_iload_n (q := 26) d_X1_indexOf_25 rfl rfl ?_
      refine sm_iload_n (q := 27) d_X1_indexOf_26 rfl rfl ?_
      refine sm_iadd (q := 28) d_X1_indexOf_27 rfl ?_
      refine sm_iconst (q := 29) d_X1_indexOf_28 rfl ci_1 ?_
      refine sm_ishr (q := 30) d_X1_indexOf_29 rfl ?_
      refine sm_istore (q := 32) (lt := [some (.ref a0), some (.int x1), some (.int x2), some (.int x3), some (.int x4), some (.int ((x2 + x3) >>> ((1 : Int32) &&& 31)))]) d_X1_indexOf_30 rfl (Nat.le_of_ble_eq_true rfl) rfl rfl ?_
      refine sm_aload_n (q := 33) d_X1_indexOf_32 rfl rfl ?_
      refine sm_getr (q := 36) d_X1_indexOf_33 rfl fl_X1_9 ha0.1 rfl ?_
      refine sm_iload (q := 38) d_X1_indexOf_36 rfl rfl ?_
      obtain ⟨g3, h⟩ := sm_gt h
      refine sm_iaload (q := 39) d_X1_indexOf_38 rfl ha0.2.1 (sm_ib_of g3) ?_
      refine sm_iload_n (q := 40) d_X1_indexOf_39 rfl rfl ?_
      refine sm_icmp_ne (q := 43) (t := 46) d_X1_indexOf_40 rfl rfl (fun c4 => ?_) (fun c4 => ?_)
      · replace h := sm_if c4 h
        refine sm_aload_n (q := 47) d_X1_indexOf_46 rfl rfl ?_
        refine sm_getr (q := 50) d_X1_indexOf_47 rfl fl_X1_9 ha0.1 rfl ?_
        refine sm_iload (q := 52) d_X1_indexOf_50 rfl rfl ?_
        obtain ⟨g5, h⟩ := sm_gt h
        refine sm_iaload (q := 53) d_X1_indexOf_52 rfl ha0.2.1 (sm_ib_of g5) ?_
        refine sm_iload_n (q := 54) d_X1_indexOf_53 rfl rfl ?_
        refine sm_icmp_ge (q := 57) (t := 65) d_X1_indexOf_54 rfl rfl (fun c6 => ?_) (fun c6 => ?_)
        · replace h := sm_it c6 h
          refine sm_iload (q := 67) d_X1_indexOf_65 rfl rfl ?_
          refine sm_iconst (q := 68) d_X1_indexOf_67 rfl ci_1 ?_
          refine sm_isub (q := 69) d_X1_indexOf_68 rfl ?_
          refine sm_istore_n (q := 70) (lt := [some (.ref a0), some (.int x1), some (.int x2), some (.int (((x2 + x3) >>> ((1 : Int32) &&& 31)) - (1 : Int32))), some (.int x4), some (.int ((x2 + x3) >>> ((1 : Int32) &&& 31)))]) d_X1_indexOf_69 rfl (Nat.le_of_ble_eq_true rfl) rfl rfl ?_
          refine sm_fg [5] ?_
          exact j_X1_indexOf_70 hx F a0 ha0 kb12 hkb12 x1 x2 (((x2 + x3) >>> ((1 : Int32) &&& 31)) - (1 : Int32)) x4 M _ h
        · replace h := sm_if c6 h
          refine sm_iload (q := 59) d_X1_indexOf_57 rfl rfl ?_
          refine sm_iconst (q := 60) d_X1_indexOf_59 rfl ci_1 ?_
          refine sm_iadd (q := 61) d_X1_indexOf_60 rfl ?_
          refine sm_istore_n (q := 62) (lt := [some (.ref a0), some (.int x1), some (.int (((x2 + x3) >>> ((1 : Int32) &&& 31)) + (1 : Int32))), some (.int x3), some (.int x4), some (.int ((x2 + x3) >>> ((1 : Int32) &&& 31)))]) d_X1_indexOf_61 rfl (Nat.le_of_ble_eq_true rfl) rfl rfl ?_
          refine sm_goto (t := 70) d_X1_indexOf_62 rfl ?_
          refine sm_fg [5] ?_
          exact j_X1_indexOf_70 hx F a0 ha0 kb12 hkb12 x1 (((x2 + x3) >>> ((1 : Int32) &&& 31)) + (1 : Int32)) x3 x4 M _ h
      · replace h := sm_it c4 h
        refine sm_iload (q := 45) d_X1_indexOf_43 rfl rfl ?_
        obtain rfl := Option.some.inj h
        exact sm_iret d_X1_indexOf_45 rfl rfl rfl rfl
def f_X1_indexOf_12 (F : Nat) (a0 : Nat) (n : Nat) : Int32 → Int32 → Int32 → Int32 → sm_M → Option (Int32) := match n with
 | 0 => fun _ _ _ _ _ => none
 | n + 1 => f_X1_indexOf_12b F a0 (f_X1_indexOf_12 F a0 n)
theorem j_X1_indexOf_12 {sk : List sm_Sh} (hx : sm_ext skX sk) (F : Nat) (a0 : Nat) (ha0 : sm_codes sk a0) : ∀ (n : Nat) (x1 : Int32) (x2 : Int32) (x3 : Int32) (x4 : Int32) (M : sm_M) (r : Int32), f_X1_indexOf_12 F a0 n x1 x2 x3 x4 M = some r → sm_J (md_X1_indexOf, 0, sk, .inl (some (.int r)), M) 12 [some (.ref a0), some (.int x1), some (.int x2), some (.int x3), some (.int x4), none] [] M := by
  intro n
  induction n with
  | zero => intro x1 x2 x3 x4  M r h; exact nomatch (show (none : Option (Int32)) = some r from h)
  | succ n ih => exact j_X1_indexOf_12b hx F a0 ha0 (f_X1_indexOf_12 F a0 n) ih
def f_X1_indexOf (F : Nat) (a0 : Nat) (x1 : Int32) (M : sm_M) : Option (Int32) := f_X1_indexOf_12 F a0 F x1 (0 : Int32) ((M.1 a0 2) - (1 : Int32)) (0 : Int32) M
set_option maxRecDepth 100000 in
set_option maxHeartbeats 4000000 in
theorem j_X1_indexOf {sk : List sm_Sh} (hx : sm_ext skX sk) (F : Nat) (a0 : Nat) (ha0 : sm_codes sk a0) : ∀ (x1 : Int32) (M : sm_M) (r : Int32), f_X1_indexOf F a0 x1 M = some r → sm_J (md_X1_indexOf, 0, sk, .inl (some (.int r)), M) 0 [some (.ref a0), some (.int x1), none, none, none, none] [] M := by
  intro x1  M r h
  unfold f_X1_indexOf at h
  refine sm_iconst (q := 1) d_X1_indexOf_0 rfl ci_0 ?_
  refine sm_istore_n (q := 2) (lt := [some (.ref a0), some (.int x1), some (.int (0 : Int32)), none, none, none]) d_X1_indexOf_1 rfl (Nat.le_of_ble_eq_true rfl) rfl rfl ?_
  refine sm_aload_n (q := 3) d_X1_indexOf_2 rfl rfl ?_
  refine sm_geti (q := 6) d_X1_indexOf_3 rfl fl_X1_35 ha0.1 rfl ?_
  refine sm_iconst (q := 7) d_X1_indexOf_6 rfl ci_1 ?_
  refine sm_isub (q := 8) d_X1_indexOf_7 rfl ?_
  refine sm_istore_n (q := 9) (lt := [some (.ref a0), some (.int x1), some (.int (0 : Int32)), some (.int ((M.1 a0 2) - (1 : Int32))), none, none]) d_X1_indexOf_8 rfl (Nat.le_of_ble_eq_true rfl) rfl rfl ?_
  refine sm_iconst (q := 10) d_X1_indexOf_9 rfl ci_0 ?_
  refine sm_istore (q := 12) (lt := [some (.ref a0), some (.int x1), some (.int (0 : Int32)), some (.int ((M.1 a0 2) - (1 : Int32))), some (.int (0 : Int32)), none]) d_X1_indexOf_10 rfl (Nat.le_of_ble_eq_true rfl) rfl rfl ?_
  exact j_X1_indexOf_12 hx F a0 ha0 F x1 (0 : Int32) ((M.1 a0 2) - (1 : Int32)) (0 : Int32) M _ h
theorem c_X1_indexOf {sk : List sm_Sh} (hx : sm_ext skX sk) (F : Nat) (a0 : Nat) (ha0 : sm_codes sk a0) (x1 : Int32) (M : sm_M) (r : Int32) (h : f_X1_indexOf F a0 x1 M = some r) : sm_Ct yX1_indexOf md_X1_indexOf 0 sk [.ref a0, .int x1] M (.inl (some (.int r))) M := sm_enter 4 pn_X1 rfl (Nat.le_of_ble_eq_true rfl) rfl (j_X1_indexOf hx F a0 ha0 x1 M r h)
/-! UniversalCycles$Codes.withoutFirst(II)I -/
theorem d_X1_withoutFirst_0 : decode cX1_withoutFirst 0 = .ok (.iload_n 0, 1) := by decide +kernel
theorem d_X1_withoutFirst_1 : decode cX1_withoutFirst 1 = .ok (.iconst 1, 1) := by decide +kernel
theorem d_X1_withoutFirst_2 : decode cX1_withoutFirst 2 = .ok (.iconst 3, 1) := by decide +kernel
theorem d_X1_withoutFirst_3 : decode cX1_withoutFirst 3 = .ok (.iload_n 1, 1) := by decide +kernel
theorem d_X1_withoutFirst_4 : decode cX1_withoutFirst 4 = .ok (.iconst 1, 1) := by decide +kernel
theorem d_X1_withoutFirst_5 : decode cX1_withoutFirst 5 = .ok (.isub, 1) := by decide +kernel
theorem d_X1_withoutFirst_6 : decode cX1_withoutFirst 6 = .ok (.imul, 1) := by decide +kernel
theorem d_X1_withoutFirst_7 : decode cX1_withoutFirst 7 = .ok (.ishl, 1) := by decide +kernel
theorem d_X1_withoutFirst_8 : decode cX1_withoutFirst 8 = .ok (.iconst 1, 1) := by decide +kernel
theorem d_X1_withoutFirst_9 : decode cX1_withoutFirst 9 = .ok (.isub, 1) := by decide +kernel
theorem d_X1_withoutFirst_10 : decode cX1_withoutFirst 10 = .ok (.iand, 1) := by decide +kernel
theorem d_X1_withoutFirst_11 : decode cX1_withoutFirst 11 = .ok (.ireturn, 1) := by decide +kernel
def f_X1_withoutFirst (F : Nat) (x0 : Int32) (x1 : Int32) (M : sm_M) : Option (Int32) := some (x0 &&& (((1 : Int32) <<< (((3 : Int32) * (x1 - (1 : Int32))) &&& 31)) - (1 : Int32)))
set_option maxRecDepth 100000 in
set_option maxHeartbeats 4000000 in
theorem j_X1_withoutFirst {sk : List sm_Sh} (hx : sm_ext skX sk) (F : Nat) : ∀ (x0 : Int32) (x1 : Int32) (M : sm_M) (r : Int32), f_X1_withoutFirst F x0 x1 M = some r → sm_J (md_X1_withoutFirst, 0, sk, .inl (some (.int r)), M) 0 [some (.int x0), some (.int x1)] [] M := by
  intro x0 x1  M r h
  unfold f_X1_withoutFirst at h
  refine sm_iload_n (q := 1) d_X1_withoutFirst_0 rfl rfl ?_
  refine sm_iconst (q := 2) d_X1_withoutFirst_1 rfl ci_1 ?_
  refine sm_iconst (q := 3) d_X1_withoutFirst_2 rfl ci_3 ?_
  refine sm_iload_n (q := 4) d_X1_withoutFirst_3 rfl rfl ?_
  refine sm_iconst (q := 5) d_X1_withoutFirst_4 rfl ci_1 ?_
  refine sm_isub (q := 6) d_X1_withoutFirst_5 rfl ?_
  refine sm_imul (q := 7) d_X1_withoutFirst_6 rfl ?_
  refine sm_ishl (q := 8) d_X1_withoutFirst_7 rfl ?_
  refine sm_iconst (q := 9) d_X1_withoutFirst_8 rfl ci_1 ?_
  refine sm_isub (q := 10) d_X1_withoutFirst_9 rfl ?_
  refine sm_iand (q := 11) d_X1_withoutFirst_10 rfl ?_
  obtain rfl := Option.some.inj h
  exact sm_iret d_X1_withoutFirst_11 rfl rfl rfl rfl
theorem c_X1_withoutFirst {sk : List sm_Sh} (hx : sm_ext skX sk) (F : Nat) (x0 : Int32) (x1 : Int32) (M : sm_M) (r : Int32) (h : f_X1_withoutFirst F x0 x1 M = some r) : sm_Ct yX1_withoutFirst md_X1_withoutFirst 0 sk [.int x0, .int x1] M (.inl (some (.int r))) M := sm_enter 0 pn_X1 rfl (Nat.le_of_ble_eq_true rfl) rfl (j_X1_withoutFirst hx F x0 x1 M r h)
/-! UniversalCycles$Family.hasSymbol(I)Z -/
theorem d_X2_hasSymbol_0 : decode cX2_hasSymbol 0 = .ok (.iload_n 1, 1) := by decide +kernel
theorem d_X2_hasSymbol_1 : decode cX2_hasSymbol 1 = .ok (.ifCond .lt 15, 3) := by decide +kernel
theorem d_X2_hasSymbol_4 : decode cX2_hasSymbol 4 = .ok (.iload_n 1, 1) := by decide +kernel
theorem d_X2_hasSymbol_5 : decode cX2_hasSymbol 5 = .ok (.aload_n 0, 1) := by decide +kernel
theorem d_X2_hasSymbol_6 : decode cX2_hasSymbol 6 = .ok (.getfield 29, 3) := by decide +kernel
theorem d_X2_hasSymbol_9 : decode cX2_hasSymbol 9 = .ok (.if_icmp .ge 7, 3) := by decide +kernel
theorem d_X2_hasSymbol_12 : decode cX2_hasSymbol 12 = .ok (.iconst 1, 1) := by decide +kernel
theorem d_X2_hasSymbol_13 : decode cX2_hasSymbol 13 = .ok (.goto 4, 3) := by decide +kernel
theorem d_X2_hasSymbol_16 : decode cX2_hasSymbol 16 = .ok (.iconst 0, 1) := by decide +kernel
theorem d_X2_hasSymbol_17 : decode cX2_hasSymbol 17 = .ok (.ireturn, 1) := by decide +kernel
def f_X2_hasSymbol_17 (F : Nat) (y0 : Int32) (M : sm_M) : Option (Int32) := sm_g (sm_nar .boolean y0) (some y0)
set_option maxRecDepth 100000 in
set_option maxHeartbeats 4000000 in
theorem j_X2_hasSymbol_17 {sk : List sm_Sh} (hx : sm_ext skX sk) (F : Nat) : ∀ (y0 : Int32) (M : sm_M) (r : Int32), f_X2_hasSymbol_17 F y0 M = some r → sm_J (md_X2_hasSymbol, 0, sk, .inl (some (.int r)), M) 17 [none, none] [.int y0] M := by
  intro y0  M r h
  unfold f_X2_hasSymbol_17 at h
  obtain ⟨g1, h⟩ := sm_gt h
  obtain rfl := Option.some.inj h
  exact sm_iret d_X2_hasSymbol_17 rfl (sm_nar_of g1).1 rfl rfl
def f_X2_hasSymbol_16 (F : Nat) (M : sm_M) : Option (Int32) := f_X2_hasSymbol_17 F (0 : Int32) M
set_option maxRecDepth 100000 in
set_option maxHeartbeats 4000000 in
theorem j_X2_hasSymbol_16 {sk : List sm_Sh} (hx : sm_ext skX sk) (F : Nat) : ∀ (M : sm_M) (r : Int32), f_X2_hasSymbol_16 F M = some r → sm_J (md_X2_hasSymbol, 0, sk, .inl (some (.int r)), M) 16 [none, none] [] M := by
  intro   M r h
  unfold f_X2_hasSymbol_16 at h
  refine sm_iconst (q := 17) d_X2_hasSymbol_16 rfl ci_0 ?_
  exact j_X2_hasSymbol_17 hx F (0 : Int32) M _ h
def f_X2_hasSymbol (F : Nat) (x1 : Int32) (M : sm_M) : Option (Int32) := if x1 < 0 then (f_X2_hasSymbol_16 F M) else (if (M.1 1 3) ≤ x1 then (f_X2_hasSymbol_16 F M) else (f_X2_hasSymbol_17 F (1 : Int32) M))
set_option maxRecDepth 100000 in
set_option maxHeartbeats 4000000 in
theorem j_X2_hasSymbol {sk : List sm_Sh} (hx : sm_ext skX sk) (F : Nat) : ∀ (x1 : Int32) (M : sm_M) (r : Int32), f_X2_hasSymbol F x1 M = some r → sm_J (md_X2_hasSymbol, 0, sk, .inl (some (.int r)), M) 0 [some (.ref 1), some (.int x1)] [] M := by
  intro x1  M r h
  unfold f_X2_hasSymbol at h
  refine sm_iload_n (q := 1) d_X2_hasSymbol_0 rfl rfl ?_
  refine sm_if_lt (q := 4) (t := 16) d_X2_hasSymbol_1 rfl rfl (fun c1 => ?_) (fun c1 => ?_)
  · replace h := sm_it c1 h
    refine sm_fg [0, 1] ?_
    exact j_X2_hasSymbol_16 hx F M _ h
  · replace h := sm_if c1 h
    refine sm_iload_n (q := 5) d_X2_hasSymbol_4 rfl rfl ?_
    refine sm_aload_n (q := 6) d_X2_hasSymbol_5 rfl rfl ?_
    refine sm_geti (q := 9) d_X2_hasSymbol_6 rfl fl_X2_29 (hx sx_1) rfl ?_
    refine sm_icmp_ge (q := 12) (t := 16) d_X2_hasSymbol_9 rfl rfl (fun c2 => ?_) (fun c2 => ?_)
    · replace h := sm_it c2 h
      refine sm_fg [0, 1] ?_
      exact j_X2_hasSymbol_16 hx F M _ h
    · replace h := sm_if c2 h
      refine sm_iconst (q := 13) d_X2_hasSymbol_12 rfl ci_1 ?_
      refine sm_goto (t := 17) d_X2_hasSymbol_13 rfl ?_
      refine sm_fg [0, 1] ?_
      exact j_X2_hasSymbol_17 hx F (1 : Int32) M _ h
theorem c_X2_hasSymbol {sk : List sm_Sh} (hx : sm_ext skX sk) (F : Nat) (x1 : Int32) (M : sm_M) (r : Int32) (h : f_X2_hasSymbol F x1 M = some r) : sm_Ct yX2_hasSymbol md_X2_hasSymbol 0 sk [.ref 1, .int x1] M (.inl (some (.int r))) M := sm_enter 0 pn_X2 rfl (Nat.le_of_ble_eq_true rfl) rfl (j_X2_hasSymbol hx F x1 M r h)
/-! UniversalCycles$Codes.ascending(I)I -/
theorem d_X1_ascending_0 : decode cX1_ascending 0 = .ok (.iconst 0, 1) := by decide +kernel
theorem d_X1_ascending_1 : decode cX1_ascending 1 = .ok (.istore_n 1, 1) := by decide +kernel
theorem d_X1_ascending_2 : decode cX1_ascending 2 = .ok (.iconst 0, 1) := by decide +kernel
theorem d_X1_ascending_3 : decode cX1_ascending 3 = .ok (.istore_n 2, 1) := by decide +kernel
theorem d_X1_ascending_4 : decode cX1_ascending 4 = .ok (.iload_n 2, 1) := by decide +kernel
theorem d_X1_ascending_5 : decode cX1_ascending 5 = .ok (.bipush 7, 2) := by decide +kernel
theorem d_X1_ascending_7 : decode cX1_ascending 7 = .ok (.if_icmp .gt 24, 3) := by decide +kernel
theorem d_X1_ascending_10 : decode cX1_ascending 10 = .ok (.iload_n 0, 1) := by decide +kernel
theorem d_X1_ascending_11 : decode cX1_ascending 11 = .ok (.iload_n 2, 1) := by decide +kernel
theorem d_X1_ascending_12 : decode cX1_ascending 12 = .ok (.ishr, 1) := by decide +kernel
theorem d_X1_ascending_13 : decode cX1_ascending 13 = .ok (.iconst 1, 1) := by decide +kernel
theorem d_X1_ascending_14 : decode cX1_ascending 14 = .ok (.iand, 1) := by decide +kernel
theorem d_X1_ascending_15 : decode cX1_ascending 15 = .ok (.iconst 1, 1) := by decide +kernel
theorem d_X1_ascending_16 : decode cX1_ascending 16 = .ok (.if_icmp .ne 9, 3) := by decide +kernel
theorem d_X1_ascending_19 : decode cX1_ascending 19 = .ok (.iload_n 1, 1) := by decide +kernel
theorem d_X1_ascending_20 : decode cX1_ascending 20 = .ok (.iload_n 2, 1) := by decide +kernel
theorem d_X1_ascending_21 : decode cX1_ascending 21 = .ok (.invokestatic 32, 3) := by decide +kernel
theorem d_X1_ascending_24 : decode cX1_ascending 24 = .ok (.istore_n 1, 1) := by decide +kernel
theorem d_X1_ascending_25 : decode cX1_ascending 25 = .ok (.iinc 2 1, 3) := by decide +kernel
theorem d_X1_ascending_28 : decode cX1_ascending 28 = .ok (.goto (-24), 3) := by decide +kernel
theorem d_X1_ascending_31 : decode cX1_ascending 31 = .ok (.iload_n 1, 1) := by decide +kernel
theorem d_X1_ascending_32 : decode cX1_ascending 32 = .ok (.ireturn, 1) := by decide +kernel
def f_X1_ascending_25 (F : Nat) (kb4 : Int32 → Int32 → Int32 → sm_M → Option (Int32)) (x0 : Int32) (x1 : Int32) (x2 : Int32) (M : sm_M) : Option (Int32) := kb4 x0 x1 (x2 + 1) M
set_option maxRecDepth 100000 in
set_option maxHeartbeats 4000000 in
theorem j_X1_ascending_25 {sk : List sm_Sh} (hx : sm_ext skX sk) (F : Nat) (kb4 : Int32 → Int32 → Int32 → sm_M → Option (Int32)) (hkb4 : ∀ (x0 : Int32) (x1 : Int32) (x2 : Int32) (M : sm_M) (r : Int32), kb4 x0 x1 x2 M = some r → sm_J (md_X1_ascending, 1, sk, .inl (some (.int r)), M) 4 [some (.int x0), some (.int x1), some (.int x2)] [] M) : ∀ (x0 : Int32) (x1 : Int32) (x2 : Int32) (M : sm_M) (r : Int32), f_X1_ascending_25 F kb4 x0 x1 x2 M = some r → sm_J (md_X1_ascending, 1, sk, .inl (some (.int r)), M) 25 [some (.int x0), some (.int x1), some (.int x2)] [] M := by
  intro x0 x1 x2  M r h
  unfold f_X1_ascending_25 at h
  refine sm_iinc (q := 28) (v := (x2 + 1)) (lt := [some (.int x0), some (.int x1), some (.int (x2 + 1))]) d_X1_ascending_25 rfl rfl (ii_1 _) (Nat.le_of_ble_eq_true rfl) rfl rfl ?_
  refine sm_goto (t := 4) d_X1_ascending_28 rfl ?_
  exact hkb4 x0 x1 (x2 + 1) M _ h
def f_X1_ascending_4b (F : Nat) (kb4 : Int32 → Int32 → Int32 → sm_M → Option (Int32)) (x0 : Int32) (x1 : Int32) (x2 : Int32) (M : sm_M) : Option (Int32) := if (7 : Int32) < x2 then (some x1) else (if ((x0 >>> (x2 &&& 31)) &&& (1 : Int32)) = (1 : Int32) then ((f_X1_withLast F x1 x2 M).bind fun q3 => f_X1_ascending_25 F kb4 x0 q3 x2 M) else (f_X1_ascending_25 F kb4 x0 x1 x2 M))
set_option maxRecDepth 100000 in
set_option maxHeartbeats 4000000 in
theorem j_X1_ascending_4b {sk : List sm_Sh} (hx : sm_ext skX sk) (F : Nat) (kb4 : Int32 → Int32 → Int32 → sm_M → Option (Int32)) (hkb4 : ∀ (x0 : Int32) (x1 : Int32) (x2 : Int32) (M : sm_M) (r : Int32), kb4 x0 x1 x2 M = some r → sm_J (md_X1_ascending, 1, sk, .inl (some (.int r)), M) 4 [some (.int x0), some (.int x1), some (.int x2)] [] M) : ∀ (x0 : Int32) (x1 : Int32) (x2 : Int32) (M : sm_M) (r : Int32), f_X1_ascending_4b F kb4 x0 x1 x2 M = some r → sm_J (md_X1_ascending, 1, sk, .inl (some (.int r)), M) 4 [some (.int x0), some (.int x1), some (.int x2)] [] M := by
  intro x0 x1 x2  M r h
  unfold f_X1_ascending_4b at h
  refine sm_iload_n (q := 5) d_X1_ascending_4 rfl rfl ?_
  refine sm_bipush (q := 7) d_X1_ascending_5 rfl cb_7 ?_
  refine sm_icmp_gt (q := 10) (t := 31) d_X1_ascending_7 rfl rfl (fun c1 => ?_) (fun c1 => ?_)
  · replace h := sm_it c1 h
    refine sm_iload_n (q := 32) d_X1_ascending_31 rfl rfl ?_
    obtain rfl := Option.some.inj h
    exact sm_iret d_X1_ascending_32 rfl rfl rfl rfl
  · replace h := sm_if c1 h
    refine sm_iload_n (q := 11) d_X1_ascending_10 rfl rfl ?_
    refine sm_iload_n (q := 12) d_X1_ascending_11 rfl rfl ?_
    refine sm_ishr (q := 13) d_X1_ascending_12 rfl ?_
    refine sm_iconst (q := 14) d_X1_ascending_13 rfl ci_1 ?_
    refine sm_iand (q := 15) d_X1_ascending_14 rfl ?_
    refine sm_iconst (q := 16) d_X1_ascending_15 rfl ci_1 ?_
    refine sm_icmp_ne (q := 19) (t := 25) d_X1_ascending_16 rfl rfl (fun c2 => ?_) (fun c2 => ?_)
    · replace h := sm_if c2 h
      exact j_X1_ascending_25 hx F kb4 hkb4 x0 x1 x2 M _ h
    · replace h := sm_it c2 h
      refine sm_iload_n (q := 20) d_X1_ascending_19 rfl rfl ?_
      refine sm_iload_n (q := 21) d_X1_ascending_20 rfl rfl ?_
      obtain ⟨q3, e3, h⟩ := sm_bd h
      refine sm_callS (q := 24) (d' := 0) [] [.int x1, .int x2] d_X1_ascending_21 rfl lk_X1_32 rfl (Nat.le_of_ble_eq_true rfl) (Nat.le_of_ble_eq_true rfl) (c_X1_withLast hx F x1 x2 M _ e3) (st9 := [.int q3]) rfl ?_
      refine sm_istore_n (q := 25) (lt := [some (.int x0), some (.int q3), some (.int x2)]) d_X1_ascending_24 rfl (Nat.le_of_ble_eq_true rfl) rfl rfl ?_
      exact j_X1_ascending_25 hx F kb4 hkb4 x0 q3 x2 M _ h
def f_X1_ascending_4 (F : Nat) (n : Nat) : Int32 → Int32 → Int32 → sm_M → Option (Int32) := match n with
 | 0 => fun _ _ _ _ => none
 | n + 1 => f_X1_ascending_4b F (f_X1_ascending_4 F n)
theorem j_X1_ascending_4 {sk : List sm_Sh} (hx : sm_ext skX sk) (F : Nat) : ∀ (n : Nat) (x0 : Int32) (x1 : Int32) (x2 : Int32) (M : sm_M) (r : Int32), f_X1_ascending_4 F n x0 x1 x2 M = some r → sm_J (md_X1_ascending, 1, sk, .inl (some (.int r)), M) 4 [some (.int x0), some (.int x1), some (.int x2)] [] M := by
  intro n
  induction n with
  | zero => intro x0 x1 x2  M r h; exact nomatch (show (none : Option (Int32)) = some r from h)
  | succ n ih => exact j_X1_ascending_4b hx F (f_X1_ascending_4 F n) ih
def f_X1_ascending (F : Nat) (x0 : Int32) (M : sm_M) : Option (Int32) := f_X1_ascending_4 F F x0 (0 : Int32) (0 : Int32) M
set_option maxRecDepth 100000 in
set_option maxHeartbeats 4000000 in
theorem j_X1_ascending {sk : List sm_Sh} (hx : sm_ext skX sk) (F : Nat) : ∀ (x0 : Int32) (M : sm_M) (r : Int32), f_X1_ascending F x0 M = some r → sm_J (md_X1_ascending, 1, sk, .inl (some (.int r)), M) 0 [some (.int x0), none, none] [] M := by
  intro x0  M r h
  unfold f_X1_ascending at h
  refine sm_iconst (q := 1) d_X1_ascending_0 rfl ci_0 ?_
  refine sm_istore_n (q := 2) (lt := [some (.int x0), some (.int (0 : Int32)), none]) d_X1_ascending_1 rfl (Nat.le_of_ble_eq_true rfl) rfl rfl ?_
  refine sm_iconst (q := 3) d_X1_ascending_2 rfl ci_0 ?_
  refine sm_istore_n (q := 4) (lt := [some (.int x0), some (.int (0 : Int32)), some (.int (0 : Int32))]) d_X1_ascending_3 rfl (Nat.le_of_ble_eq_true rfl) rfl rfl ?_
  exact j_X1_ascending_4 hx F F x0 (0 : Int32) (0 : Int32) M _ h
theorem c_X1_ascending {sk : List sm_Sh} (hx : sm_ext skX sk) (F : Nat) (x0 : Int32) (M : sm_M) (r : Int32) (h : f_X1_ascending F x0 M = some r) : sm_Ct yX1_ascending md_X1_ascending 1 sk [.int x0] M (.inl (some (.int r))) M := sm_enter 2 pn_X1 rfl (Nat.le_of_ble_eq_true rfl) rfl (j_X1_ascending hx F x0 M r h)
/-! UniversalCycles$Family.shownBy(LUniversalCycles$Row;I)I -/
theorem d_X2_shownBy_0 : decode cX2_shownBy 0 = .ok (.iconst 0, 1) := by decide +kernel
theorem d_X2_shownBy_1 : decode cX2_shownBy 1 = .ok (.istore_n 3, 1) := by decide +kernel
theorem d_X2_shownBy_2 : decode cX2_shownBy 2 = .ok (.iconst 0, 1) := by decide +kernel
theorem d_X2_shownBy_3 : decode cX2_shownBy 3 = .ok (.istore 4, 2) := by decide +kernel
theorem d_X2_shownBy_5 : decode cX2_shownBy 5 = .ok (.iload 4, 2) := by decide +kernel
theorem d_X2_shownBy_7 : decode cX2_shownBy 7 = .ok (.aload_n 0, 1) := by decide +kernel
theorem d_X2_shownBy_8 : decode cX2_shownBy 8 = .ok (.getfield 26, 3) := by decide +kernel
theorem d_X2_shownBy_11 : decode cX2_shownBy 11 = .ok (.if_icmp .ge 22, 3) := by decide +kernel
theorem d_X2_shownBy_14 : decode cX2_shownBy 14 = .ok (.iload_n 3, 1) := by decide +kernel
theorem d_X2_shownBy_15 : decode cX2_shownBy 15 = .ok (.aload_n 1, 1) := by decide +kernel
theorem d_X2_shownBy_16 : decode cX2_shownBy 16 = .ok (.iload_n 2, 1) := by decide +kernel
theorem d_X2_shownBy_17 : decode cX2_shownBy 17 = .ok (.iload 4, 2) := by decide +kernel
theorem d_X2_shownBy_19 : decode cX2_shownBy 19 = .ok (.iadd, 1) := by decide +kernel
theorem d_X2_shownBy_20 : decode cX2_shownBy 20 = .ok (.invokevirtual 40, 3) := by decide +kernel
theorem d_X2_shownBy_23 : decode cX2_shownBy 23 = .ok (.invokestatic 46, 3) := by decide +kernel
theorem d_X2_shownBy_26 : decode cX2_shownBy 26 = .ok (.istore_n 3, 1) := by decide +kernel
theorem d_X2_shownBy_27 : decode cX2_shownBy 27 = .ok (.iinc 4 1, 3) := by decide +kernel
theorem d_X2_shownBy_30 : decode cX2_shownBy 30 = .ok (.goto (-25), 3) := by decide +kernel
theorem d_X2_shownBy_33 : decode cX2_shownBy 33 = .ok (.aload_n 0, 1) := by decide +kernel
theorem d_X2_shownBy_34 : decode cX2_shownBy 34 = .ok (.getfield 22, 3) := by decide +kernel
theorem d_X2_shownBy_37 : decode cX2_shownBy 37 = .ok (.ifCond .ne 12, 3) := by decide +kernel
theorem d_X2_shownBy_40 : decode cX2_shownBy 40 = .ok (.aload_n 0, 1) := by decide +kernel
theorem d_X2_shownBy_41 : decode cX2_shownBy 41 = .ok (.getfield 12, 3) := by decide +kernel
theorem d_X2_shownBy_44 : decode cX2_shownBy 44 = .ok (.iload_n 3, 1) := by decide +kernel
theorem d_X2_shownBy_45 : decode cX2_shownBy 45 = .ok (.invokevirtual 50, 3) := by decide +kernel
theorem d_X2_shownBy_48 : decode cX2_shownBy 48 = .ok (.ireturn, 1) := by decide +kernel
theorem d_X2_shownBy_49 : decode cX2_shownBy 49 = .ok (.iload_n 3, 1) := by decide +kernel
theorem d_X2_shownBy_50 : decode cX2_shownBy 50 = .ok (.aload_n 0, 1) := by decide +kernel
theorem d_X2_shownBy_51 : decode cX2_shownBy 51 = .ok (.getfield 26, 3) := by decide +kernel
theorem d_X2_shownBy_54 : decode cX2_shownBy 54 = .ok (.invokestatic 53, 3) := by decide +kernel
theorem d_X2_shownBy_57 : decode cX2_shownBy 57 = .ok (.istore 4, 2) := by decide +kernel
theorem d_X2_shownBy_59 : decode cX2_shownBy 59 = .ok (.iload 4, 2) := by decide +kernel
theorem d_X2_shownBy_61 : decode cX2_shownBy 61 = .ok (.invokestatic 56, 3) := by decide +kernel
theorem d_X2_shownBy_64 : decode cX2_shownBy 64 = .ok (.aload_n 0, 1) := by decide +kernel
theorem d_X2_shownBy_65 : decode cX2_shownBy 65 = .ok (.getfield 26, 3) := by decide +kernel
theorem d_X2_shownBy_68 : decode cX2_shownBy 68 = .ok (.if_icmp .ge 5, 3) := by decide +kernel
theorem d_X2_shownBy_71 : decode cX2_shownBy 71 = .ok (.iconst (-1), 1) := by decide +kernel
theorem d_X2_shownBy_72 : decode cX2_shownBy 72 = .ok (.ireturn, 1) := by decide +kernel
theorem d_X2_shownBy_73 : decode cX2_shownBy 73 = .ok (.aload_n 0, 1) := by decide +kernel
theorem d_X2_shownBy_74 : decode cX2_shownBy 74 = .ok (.getfield 22, 3) := by decide +kernel
theorem d_X2_shownBy_77 : decode cX2_shownBy 77 = .ok (.iconst 1, 1) := by decide +kernel
theorem d_X2_shownBy_78 : decode cX2_shownBy 78 = .ok (.if_icmp .ne 19, 3) := by decide +kernel
theorem d_X2_shownBy_81 : decode cX2_shownBy 81 = .ok (.aload_n 0, 1) := by decide +kernel
theorem d_X2_shownBy_82 : decode cX2_shownBy 82 = .ok (.getfield 12, 3) := by decide +kernel
theorem d_X2_shownBy_85 : decode cX2_shownBy 85 = .ok (.iload_n 3, 1) := by decide +kernel
theorem d_X2_shownBy_86 : decode cX2_shownBy 86 = .ok (.aload_n 0, 1) := by decide +kernel
theorem d_X2_shownBy_87 : decode cX2_shownBy 87 = .ok (.getfield 26, 3) := by decide +kernel
theorem d_X2_shownBy_90 : decode cX2_shownBy 90 = .ok (.invokestatic 61, 3) := by decide +kernel
theorem d_X2_shownBy_93 : decode cX2_shownBy 93 = .ok (.invokevirtual 50, 3) := by decide +kernel
theorem d_X2_shownBy_96 : decode cX2_shownBy 96 = .ok (.ireturn, 1) := by decide +kernel
theorem d_X2_shownBy_97 : decode cX2_shownBy 97 = .ok (.aload_n 0, 1) := by decide +kernel
theorem d_X2_shownBy_98 : decode cX2_shownBy 98 = .ok (.getfield 12, 3) := by decide +kernel
theorem d_X2_shownBy_101 : decode cX2_shownBy 101 = .ok (.aload_n 0, 1) := by decide +kernel
theorem d_X2_shownBy_102 : decode cX2_shownBy 102 = .ok (.getfield 22, 3) := by decide +kernel
theorem d_X2_shownBy_105 : decode cX2_shownBy 105 = .ok (.iconst 3, 1) := by decide +kernel
theorem d_X2_shownBy_106 : decode cX2_shownBy 106 = .ok (.if_icmp .ne 11, 3) := by decide +kernel
theorem d_X2_shownBy_109 : decode cX2_shownBy 109 = .ok (.iload 4, 2) := by decide +kernel
theorem d_X2_shownBy_111 : decode cX2_shownBy 111 = .ok (.invokestatic 64, 3) := by decide +kernel
theorem d_X2_shownBy_114 : decode cX2_shownBy 114 = .ok (.goto 4, 3) := by decide +kernel
theorem d_X2_shownBy_117 : decode cX2_shownBy 117 = .ok (.iload_n 3, 1) := by decide +kernel
theorem d_X2_shownBy_118 : decode cX2_shownBy 118 = .ok (.invokevirtual 50, 3) := by decide +kernel
theorem d_X2_shownBy_121 : decode cX2_shownBy 121 = .ok (.ireturn, 1) := by decide +kernel
def f_X2_shownBy_118 (F : Nat) (a1 : Nat) (y1 : Int32) (M : sm_M) : Option (Int32) := (f_X1_indexOf F 2 y1 M).bind fun q1 => some q1
set_option maxRecDepth 100000 in
set_option maxHeartbeats 4000000 in
theorem j_X2_shownBy_118 {sk : List sm_Sh} (hx : sm_ext skX sk) (F : Nat) (a1 : Nat) (ha1 : sm_row sk a1) : ∀ (y1 : Int32) (M : sm_M) (r : Int32), f_X2_shownBy_118 F a1 y1 M = some r → sm_J (md_X2_shownBy, 2, sk, .inl (some (.int r)), M) 118 [none, none, none, none, none] [.int y1, .ref 2] M := by
  intro y1  M r h
  unfold f_X2_shownBy_118 at h
  obtain ⟨q1, e1, h⟩ := sm_bd h
  refine sm_callV (q := 121) (d' := 0) [] [.int y1] d_X2_shownBy_118 rfl lk_X2_50 (hx sx_2) rfl rfl rfl (Nat.le_of_ble_eq_true rfl) (Nat.le_of_ble_eq_true rfl) (c_X1_indexOf hx F 2 ⟨hx sx_2, hx sx_3, hx sx_4⟩ y1 M _ e1) (st9 := [.int q1]) rfl ?_
  obtain rfl := Option.some.inj h
  exact sm_iret d_X2_shownBy_121 rfl rfl rfl rfl
def f_X2_shownBy_5b (F : Nat) (a1 : Nat) (kb5 : Int32 → Int32 → Int32 → sm_M → Option (Int32)) (x2 : Int32) (x3 : Int32) (x4 : Int32) (M : sm_M) : Option (Int32) := if (M.1 1 2) ≤ x4 then (if (M.1 1 1) = 0 then ((f_X1_indexOf F 2 x3 M).bind fun q11 => some q11) else ((f_X1_numberMask F x3 (M.1 1 2) M).bind fun q3 => (f_J6_bitCount_0f7a4 F q3 M).bind fun q4 => if (M.1 1 2) ≤ q4 then (if (M.1 1 1) = (1 : Int32) then ((f_X1_orderPattern F x3 (M.1 1 2) M).bind fun q9 => (f_X1_indexOf F 2 q9 M).bind fun q10 => some q10) else (if (M.1 1 1) = (3 : Int32) then ((f_X1_ascending F q3 M).bind fun q8 => f_X2_shownBy_118 F a1 q8 M) else (f_X2_shownBy_118 F a1 x3 M))) else (some (-1 : Int32)))) else ((f_X7_cyclicSymbol F a1 (x2 + x4) M).bind fun q12 => (f_X1_withLast F x3 q12 M).bind fun q13 => kb5 x2 q13 (x4 + 1) M)
set_option maxRecDepth 100000 in
set_option maxHeartbeats 4000000 in
theorem j_X2_shownBy_5b {sk : List sm_Sh} (hx : sm_ext skX sk) (F : Nat) (a1 : Nat) (ha1 : sm_row sk a1) (kb5 : Int32 → Int32 → Int32 → sm_M → Option (Int32)) (hkb5 : ∀ (x2 : Int32) (x3 : Int32) (x4 : Int32) (M : sm_M) (r : Int32), kb5 x2 x3 x4 M = some r → sm_J (md_X2_shownBy, 2, sk, .inl (some (.int r)), M) 5 [some (.ref 1), some (.ref a1), some (.int x2), some (.int x3), some (.int x4)] [] M) : ∀ (x2 : Int32) (x3 : Int32) (x4 : Int32) (M : sm_M) (r : Int32), f_X2_shownBy_5b F a1 kb5 x2 x3 x4 M = some r → sm_J (md_X2_shownBy, 2, sk, .inl (some (.int r)), M) 5 [some (.ref 1), some (.ref a1), some (.int x2), some (.int x3), some (.int x4)] [] M := by
  intro x2 x3 x4  M r h
  unfold f_X2_shownBy_5b at h
  refine sm_iload (q := 7) d_X2_shownBy_5 rfl rfl ?_
  refine sm_aload_n (q := 8) d_X2_shownBy_7 rfl rfl ?_
  refine sm_geti (q := 11) d_X2_shownBy_8 rfl fl_X2_26 (hx sx_1) rfl ?_
  refine sm_icmp_ge (q := 14) (t := 33) d_X2_shownBy_11 rfl rfl (fun c1 => ?_) (fun c1 => ?_)
  · replace h := sm_it c1 h
    refine sm_aload_n (q := 34) d_X2_shownBy_33 rfl rfl ?_
    refine sm_geti (q := 37) d_X2_shownBy_34 rfl fl_X2_22 (hx sx_1) rfl ?_
    refine sm_if_ne (q := 40) (t := 49) d_X2_shownBy_37 rfl rfl (fun c2 => ?_) (fun c2 => ?_)
    · replace h := sm_if c2 h
      refine sm_iload_n (q := 50) d_X2_shownBy_49 rfl rfl ?_
      refine sm_aload_n (q := 51) d_X2_shownBy_50 rfl rfl ?_
      refine sm_geti (q := 54) d_X2_shownBy_51 rfl fl_X2_26 (hx sx_1) rfl ?_
      obtain ⟨q3, e3, h⟩ := sm_bd h
      refine sm_callS (q := 57) (d' := 0) [] [.int x3, .int (M.1 1 2)] d_X2_shownBy_54 rfl lk_X2_53 rfl (Nat.le_of_ble_eq_true rfl) (Nat.le_of_ble_eq_true rfl) (c_X1_numberMask hx F x3 (M.1 1 2) M _ e3) (st9 := [.int q3]) rfl ?_
      refine sm_istore (q := 59) (lt := [some (.ref 1), some (.ref a1), some (.int x2), some (.int x3), some (.int q3)]) d_X2_shownBy_57 rfl (Nat.le_of_ble_eq_true rfl) rfl rfl ?_
      refine sm_iload (q := 61) d_X2_shownBy_59 rfl rfl ?_
      obtain ⟨q4, e4, h⟩ := sm_bd h
      refine sm_callS (q := 64) (d' := 0) [] [.int q3] d_X2_shownBy_61 rfl lk_X2_56 rfl (Nat.le_of_ble_eq_true rfl) (Nat.le_of_ble_eq_true rfl) (c_J6_bitCount_0f7a4 hx F q3 M _ e4) (st9 := [.int q4]) rfl ?_
      refine sm_aload_n (q := 65) d_X2_shownBy_64 rfl rfl ?_
      refine sm_geti (q := 68) d_X2_shownBy_65 rfl fl_X2_26 (hx sx_1) rfl ?_
      refine sm_icmp_ge (q := 71) (t := 73) d_X2_shownBy_68 rfl rfl (fun c5 => ?_) (fun c5 => ?_)
      · replace h := sm_it c5 h
        refine sm_aload_n (q := 74) d_X2_shownBy_73 rfl rfl ?_
        refine sm_geti (q := 77) d_X2_shownBy_74 rfl fl_X2_22 (hx sx_1) rfl ?_
        refine sm_iconst (q := 78) d_X2_shownBy_77 rfl ci_1 ?_
        refine sm_icmp_ne (q := 81) (t := 97) d_X2_shownBy_78 rfl rfl (fun c6 => ?_) (fun c6 => ?_)
        · replace h := sm_if c6 h
          refine sm_aload_n (q := 98) d_X2_shownBy_97 rfl rfl ?_
          refine sm_getr (q := 101) d_X2_shownBy_98 rfl fl_X2_12 (hx sx_1) rfl ?_
          refine sm_aload_n (q := 102) d_X2_shownBy_101 rfl rfl ?_
          refine sm_geti (q := 105) d_X2_shownBy_102 rfl fl_X2_22 (hx sx_1) rfl ?_
          refine sm_iconst (q := 106) d_X2_shownBy_105 rfl ci_3 ?_
          refine sm_icmp_ne (q := 109) (t := 117) d_X2_shownBy_106 rfl rfl (fun c7 => ?_) (fun c7 => ?_)
          · replace h := sm_if c7 h
            refine sm_iload_n (q := 118) d_X2_shownBy_117 rfl rfl ?_
            refine sm_fg [0, 1, 2, 3, 4] ?_
            exact j_X2_shownBy_118 hx F a1 ha1 x3 M _ h
          · replace h := sm_it c7 h
            refine sm_iload (q := 111) d_X2_shownBy_109 rfl rfl ?_
            obtain ⟨q8, e8, h⟩ := sm_bd h
            refine sm_callS (q := 114) (d' := 1) [.ref 2] [.int q3] d_X2_shownBy_111 rfl lk_X2_64 rfl (Nat.le_of_ble_eq_true rfl) (Nat.le_of_ble_eq_true rfl) (c_X1_ascending hx F q3 M _ e8) (st9 := [.int q8, .ref 2]) rfl ?_
            refine sm_goto (t := 118) d_X2_shownBy_114 rfl ?_
            refine sm_fg [0, 1, 2, 3, 4] ?_
            exact j_X2_shownBy_118 hx F a1 ha1 q8 M _ h
        · replace h := sm_it c6 h
          refine sm_aload_n (q := 82) d_X2_shownBy_81 rfl rfl ?_
          refine sm_getr (q := 85) d_X2_shownBy_82 rfl fl_X2_12 (hx sx_1) rfl ?_
          refine sm_iload_n (q := 86) d_X2_shownBy_85 rfl rfl ?_
          refine sm_aload_n (q := 87) d_X2_shownBy_86 rfl rfl ?_
          refine sm_geti (q := 90) d_X2_shownBy_87 rfl fl_X2_26 (hx sx_1) rfl ?_
          obtain ⟨q9, e9, h⟩ := sm_bd h
          refine sm_callS (q := 93) (d' := 1) [.ref 2] [.int x3, .int (M.1 1 2)] d_X2_shownBy_90 rfl lk_X2_61 rfl (Nat.le_of_ble_eq_true rfl) (Nat.le_of_ble_eq_true rfl) (c_X1_orderPattern hx F x3 (M.1 1 2) M _ e9) (st9 := [.int q9, .ref 2]) rfl ?_
          obtain ⟨q10, e10, h⟩ := sm_bd h
          refine sm_callV (q := 96) (d' := 0) [] [.int q9] d_X2_shownBy_93 rfl lk_X2_50 (hx sx_2) rfl rfl rfl (Nat.le_of_ble_eq_true rfl) (Nat.le_of_ble_eq_true rfl) (c_X1_indexOf hx F 2 ⟨hx sx_2, hx sx_3, hx sx_4⟩ q9 M _ e10) (st9 := [.int q10]) rfl ?_
          obtain rfl := Option.some.inj h
          exact sm_iret d_X2_shownBy_96 rfl rfl rfl rfl
      · replace h := sm_if c5 h
        refine sm_iconst (q := 72) d_X2_shownBy_71 rfl ci_m1 ?_
        obtain rfl := Option.some.inj h
        exact sm_iret d_X2_shownBy_72 rfl rfl rfl rfl
    · replace h := sm_it c2 h
      refine sm_aload_n (q := 41) d_X2_shownBy_40 rfl rfl ?_
      refine sm_getr (q := 44) d_X2_shownBy_41 rfl fl_X2_12 (hx sx_1) rfl ?_
      refine sm_iload_n (q := 45) d_X2_shownBy_44 rfl rfl ?_
      obtain ⟨q11, e11, h⟩ := sm_bd h
      refine sm_callV (q := 48) (d' := 0) [] [.int x3] d_X2_shownBy_45 rfl lk_X2_50 (hx sx_2) rfl rfl rfl (Nat.le_of_ble_eq_true rfl) (Nat.le_of_ble_eq_true rfl) (c_X1_indexOf hx F 2 ⟨hx sx_2, hx sx_3, hx sx_4⟩ x3 M _ e11) (st9 := [.int q11]) rfl ?_
      obtain rfl := Option.some.inj h
      exact sm_iret d_X2_shownBy_48 rfl rfl rfl rfl
  · replace h := sm_if c1 h
    refine sm_iload_n (q := 15) d_X2_shownBy_14 rfl rfl ?_
    refine sm_aload_n (q := 16) d_X2_shownBy_15 rfl rfl ?_
    refine sm_iload_n (q := 17) d_X2_shownBy_16 rfl rfl ?_
    refine sm_iload (q := 19) d_X2_shownBy_17 rfl rfl ?_
    refine sm_iadd (q := 20) d_X2_shownBy_19 rfl ?_
    obtain ⟨q12, e12, h⟩ := sm_bd h
    refine sm_callV (q := 23) (d' := 0) [.int x3] [.int (x2 + x4)] d_X2_shownBy_20 rfl lk_X2_40 ha1.1 rfl rfl rfl (Nat.le_of_ble_eq_true rfl) (Nat.le_of_ble_eq_true rfl) (c_X7_cyclicSymbol hx F a1 ha1 (x2 + x4) M _ e12) (st9 := [.int q12, .int x3]) rfl ?_
    obtain ⟨q13, e13, h⟩ := sm_bd h
    refine sm_callS (q := 26) (d' := 0) [] [.int x3, .int q12] d_X2_shownBy_23 rfl lk_X2_46 rfl (Nat.le_of_ble_eq_true rfl) (Nat.le_of_ble_eq_true rfl) (c_X1_withLast hx F x3 q12 M _ e13) (st9 := [.int q13]) rfl ?_
    refine sm_istore_n (q := 27) (lt := [some (.ref 1), some (.ref a1), some (.int x2), some (.int q13), some (.int x4)]) d_X2_shownBy_26 rfl (Nat.le_of_ble_eq_true rfl) rfl rfl ?_
    refine sm_iinc (q := 30) (v := (x4 + 1)) (lt := [some (.ref 1), some (.ref a1), some (.int x2), some (.int q13), some (.int (x4 + 1))]) d_X2_shownBy_27 rfl rfl (ii_1 _) (Nat.le_of_ble_eq_true rfl) rfl rfl ?_
    refine sm_goto (t := 5) d_X2_shownBy_30 rfl ?_
    exact hkb5 x2 q13 (x4 + 1) M _ h
def f_X2_shownBy_5 (F : Nat) (a1 : Nat) (n : Nat) : Int32 → Int32 → Int32 → sm_M → Option (Int32) := match n with
 | 0 => fun _ _ _ _ => none
 | n + 1 => f_X2_shownBy_5b F a1 (f_X2_shownBy_5 F a1 n)
theorem j_X2_shownBy_5 {sk : List sm_Sh} (hx : sm_ext skX sk) (F : Nat) (a1 : Nat) (ha1 : sm_row sk a1) : ∀ (n : Nat) (x2 : Int32) (x3 : Int32) (x4 : Int32) (M : sm_M) (r : Int32), f_X2_shownBy_5 F a1 n x2 x3 x4 M = some r → sm_J (md_X2_shownBy, 2, sk, .inl (some (.int r)), M) 5 [some (.ref 1), some (.ref a1), some (.int x2), some (.int x3), some (.int x4)] [] M := by
  intro n
  induction n with
  | zero => intro x2 x3 x4  M r h; exact nomatch (show (none : Option (Int32)) = some r from h)
  | succ n ih => exact j_X2_shownBy_5b hx F a1 ha1 (f_X2_shownBy_5 F a1 n) ih
def f_X2_shownBy (F : Nat) (a1 : Nat) (x2 : Int32) (M : sm_M) : Option (Int32) := f_X2_shownBy_5 F a1 F x2 (0 : Int32) (0 : Int32) M
set_option maxRecDepth 100000 in
set_option maxHeartbeats 4000000 in
theorem j_X2_shownBy {sk : List sm_Sh} (hx : sm_ext skX sk) (F : Nat) (a1 : Nat) (ha1 : sm_row sk a1) : ∀ (x2 : Int32) (M : sm_M) (r : Int32), f_X2_shownBy F a1 x2 M = some r → sm_J (md_X2_shownBy, 2, sk, .inl (some (.int r)), M) 0 [some (.ref 1), some (.ref a1), some (.int x2), none, none] [] M := by
  intro x2  M r h
  unfold f_X2_shownBy at h
  refine sm_iconst (q := 1) d_X2_shownBy_0 rfl ci_0 ?_
  refine sm_istore_n (q := 2) (lt := [some (.ref 1), some (.ref a1), some (.int x2), some (.int (0 : Int32)), none]) d_X2_shownBy_1 rfl (Nat.le_of_ble_eq_true rfl) rfl rfl ?_
  refine sm_iconst (q := 3) d_X2_shownBy_2 rfl ci_0 ?_
  refine sm_istore (q := 5) (lt := [some (.ref 1), some (.ref a1), some (.int x2), some (.int (0 : Int32)), some (.int (0 : Int32))]) d_X2_shownBy_3 rfl (Nat.le_of_ble_eq_true rfl) rfl rfl ?_
  exact j_X2_shownBy_5 hx F a1 ha1 F x2 (0 : Int32) (0 : Int32) M _ h
theorem c_X2_shownBy {sk : List sm_Sh} (hx : sm_ext skX sk) (F : Nat) (a1 : Nat) (ha1 : sm_row sk a1) (x2 : Int32) (M : sm_M) (r : Int32) (h : f_X2_shownBy F a1 x2 M = some r) : sm_Ct yX2_shownBy md_X2_shownBy 2 sk [.ref 1, .ref a1, .int x2] M (.inl (some (.int r))) M := sm_enter 2 pn_X2 rfl (Nat.le_of_ble_eq_true rfl) rfl (j_X2_shownBy hx F a1 ha1 x2 M r h)
