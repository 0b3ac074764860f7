/-! ===== methods, decompiled: 15d.face ===== -/
/-! UniversalCycles.turnTo(I)I -/
theorem d_X11_turnTo_0 : decode cX11_turnTo 0 = .ok (.aload_n 0, 1) := by decide +kernel
theorem d_X11_turnTo_1 : decode cX11_turnTo 1 = .ok (.getfield 33, 3) := by decide +kernel
theorem d_X11_turnTo_4 : decode cX11_turnTo 4 = .ok (.aload_n 0, 1) := by decide +kernel
theorem d_X11_turnTo_5 : decode cX11_turnTo 5 = .ok (.getfield 26, 3) := by decide +kernel
theorem d_X11_turnTo_8 : decode cX11_turnTo 8 = .ok (.invokevirtual 136, 3) := by decide +kernel
theorem d_X11_turnTo_11 : decode cX11_turnTo 11 = .ok (.astore_n 2, 1) := by decide +kernel
theorem d_X11_turnTo_12 : decode cX11_turnTo 12 = .ok (.iconst 0, 1) := by decide +kernel
theorem d_X11_turnTo_13 : decode cX11_turnTo 13 = .ok (.istore_n 3, 1) := by decide +kernel
theorem d_X11_turnTo_14 : decode cX11_turnTo 14 = .ok (.iload_n 3, 1) := by decide +kernel
theorem d_X11_turnTo_15 : decode cX11_turnTo 15 = .ok (.aload_n 2, 1) := by decide +kernel
theorem d_X11_turnTo_16 : decode cX11_turnTo 16 = .ok (.getfield 130, 3) := by decide +kernel
theorem d_X11_turnTo_19 : decode cX11_turnTo 19 = .ok (.if_icmp .ge 25, 3) := by decide +kernel
theorem d_X11_turnTo_22 : decode cX11_turnTo 22 = .ok (.aload_n 0, 1) := by decide +kernel
theorem d_X11_turnTo_23 : decode cX11_turnTo 23 = .ok (.getfield 26, 3) := by decide +kernel
theorem d_X11_turnTo_26 : decode cX11_turnTo 26 = .ok (.getfield 146, 3) := by decide +kernel
theorem d_X11_turnTo_29 : decode cX11_turnTo 29 = .ok (.iload_n 3, 1) := by decide +kernel
theorem d_X11_turnTo_30 : decode cX11_turnTo 30 = .ok (.aload_n 2, 1) := by decide +kernel
theorem d_X11_turnTo_31 : decode cX11_turnTo 31 = .ok (.iload_n 1, 1) := by decide +kernel
theorem d_X11_turnTo_32 : decode cX11_turnTo 32 = .ok (.iload_n 3, 1) := by decide +kernel
theorem d_X11_turnTo_33 : decode cX11_turnTo 33 = .ok (.iadd, 1) := by decide +kernel
theorem d_X11_turnTo_34 : decode cX11_turnTo 34 = .ok (.invokevirtual 341, 3) := by decide +kernel
theorem d_X11_turnTo_37 : decode cX11_turnTo 37 = .ok (.iastore, 1) := by decide +kernel
theorem d_X11_turnTo_38 : decode cX11_turnTo 38 = .ok (.iinc 3 1, 3) := by decide +kernel
theorem d_X11_turnTo_41 : decode cX11_turnTo 41 = .ok (.goto (-27), 3) := by decide +kernel
theorem d_X11_turnTo_44 : decode cX11_turnTo 44 = .ok (.aload_n 2, 1) := by decide +kernel
theorem d_X11_turnTo_45 : decode cX11_turnTo 45 = .ok (.getfield 146, 3) := by decide +kernel
theorem d_X11_turnTo_48 : decode cX11_turnTo 48 = .ok (.iconst 0, 1) := by decide +kernel
theorem d_X11_turnTo_49 : decode cX11_turnTo 49 = .ok (.iaload, 1) := by decide +kernel
theorem d_X11_turnTo_50 : decode cX11_turnTo 50 = .ok (.ireturn, 1) := by decide +kernel
def f_X11_turnTo_14b (F : Nat) (kb14 : Int32 → Nat → Int32 → sm_M → Option (Int32 × sm_M)) (x1 : Int32) (x2 : Nat) (x3 : Int32) (M : sm_M) : Option (Int32 × sm_M) := if (M.1 x2 1) ≤ x3 then (some ((M.1 (x2 + 1) (0 : Int32).toNatClampNeg), M)) else ((f_X7_cyclicSymbol F x2 (x1 + x3) M).bind fun q2 => sm_g (sm_ib x3 240) (kb14 x1 x2 (x3 + 1) ((sm_mi M 25 x3.toNatClampNeg q2))))
set_option maxRecDepth 100000 in
set_option maxHeartbeats 4000000 in
theorem j_X11_turnTo_14b {sk : List sm_Sh} (hx : sm_ext skX sk) (F : Nat) (kb14 : Int32 → Nat → Int32 → sm_M → Option (Int32 × sm_M)) (hkb14 : ∀ (x1 : Int32) (x2 : Nat) (x3 : Int32) (hx2 : sm_row sk x2) (M : sm_M) (r : Int32 × sm_M), kb14 x1 x2 x3 M = some r → sm_J (md_X11_turnTo, 3, sk, .inl (some (.int r.1)), r.2) 14 [some (.ref 0), some (.int x1), some (.ref x2), some (.int x3)] [] M) : ∀ (x1 : Int32) (x2 : Nat) (x3 : Int32) (hx2 : sm_row sk x2) (M : sm_M) (r : Int32 × sm_M), f_X11_turnTo_14b F kb14 x1 x2 x3 M = some r → sm_J (md_X11_turnTo, 3, sk, .inl (some (.int r.1)), r.2) 14 [some (.ref 0), some (.int x1), some (.ref x2), some (.int x3)] [] M := by
  intro x1 x2 x3 hx2 M r h
  unfold f_X11_turnTo_14b at h
  refine sm_iload_n (q := 15) d_X11_turnTo_14 rfl rfl ?_
  refine sm_aload_n (q := 16) d_X11_turnTo_15 rfl rfl ?_
  refine sm_geti (q := 19) d_X11_turnTo_16 rfl fl_X11_130 hx2.1 rfl ?_
  refine sm_icmp_ge (q := 22) (t := 44) d_X11_turnTo_19 rfl rfl (fun c1 => ?_) (fun c1 => ?_)
  · replace h := sm_it c1 h
    refine sm_aload_n (q := 45) d_X11_turnTo_44 rfl rfl ?_
    refine sm_getr (q := 48) d_X11_turnTo_45 rfl fl_X11_146 hx2.1 rfl ?_
    refine sm_iconst (q := 49) d_X11_turnTo_48 rfl ci_0 ?_
    refine sm_iaload (q := 50) d_X11_turnTo_49 rfl hx2.2 (sm_ib_of (by decide)) ?_
    obtain rfl := Option.some.inj h
    exact sm_iret d_X11_turnTo_50 rfl rfl rfl rfl
  · replace h := sm_if c1 h
    refine sm_aload_n (q := 23) d_X11_turnTo_22 rfl rfl ?_
    refine sm_getr (q := 26) d_X11_turnTo_23 rfl fl_X11_26 (hx sx_0) rfl ?_
    refine sm_getr (q := 29) d_X11_turnTo_26 rfl fl_X11_146 (hx sx_24) rfl ?_
    refine sm_iload_n (q := 30) d_X11_turnTo_29 rfl rfl ?_
    refine sm_aload_n (q := 31) d_X11_turnTo_30 rfl rfl ?_
    refine sm_iload_n (q := 32) d_X11_turnTo_31 rfl rfl ?_
    refine sm_iload_n (q := 33) d_X11_turnTo_32 rfl rfl ?_
    refine sm_iadd (q := 34) d_X11_turnTo_33 rfl ?_
    obtain ⟨q2, e2, h⟩ := sm_bd h
    refine sm_callV (q := 37) (d' := 0) [.int x3, .ref 25] [.int (x1 + x3)] d_X11_turnTo_34 rfl lk_X11_341 hx2.1 rfl rfl rfl (Nat.le_of_ble_eq_true rfl) (Nat.le_of_ble_eq_true rfl) (c_X7_cyclicSymbol hx F x2 hx2 (x1 + x3) M _ e2) (st9 := [.int q2, .int x3, .ref 25]) rfl ?_
    obtain ⟨g3, h⟩ := sm_gt h
    refine sm_iastore (q := 38) d_X11_turnTo_37 rfl (hx sx_25) (sm_ib_of g3) ?_
    refine sm_iinc (q := 41) (v := (x3 + 1)) (lt := [some (.ref 0), some (.int x1), some (.ref x2), some (.int (x3 + 1))]) d_X11_turnTo_38 rfl rfl (ii_1 _) (Nat.le_of_ble_eq_true rfl) rfl rfl ?_
    refine sm_goto (t := 14) d_X11_turnTo_41 rfl ?_
    exact hkb14 x1 x2 (x3 + 1) hx2 ((sm_mi M 25 x3.toNatClampNeg q2)) _ h
def f_X11_turnTo_14 (F : Nat) (n : Nat) : Int32 → Nat → Int32 → sm_M → Option (Int32 × sm_M) := match n with
 | 0 => fun _ _ _ _ => none
 | n + 1 => f_X11_turnTo_14b F (f_X11_turnTo_14 F n)
theorem j_X11_turnTo_14 {sk : List sm_Sh} (hx : sm_ext skX sk) (F : Nat) : ∀ (n : Nat) (x1 : Int32) (x2 : Nat) (x3 : Int32) (hx2 : sm_row sk x2) (M : sm_M) (r : Int32 × sm_M), f_X11_turnTo_14 F n x1 x2 x3 M = some r → sm_J (md_X11_turnTo, 3, sk, .inl (some (.int r.1)), r.2) 14 [some (.ref 0), some (.int x1), some (.ref x2), some (.int x3)] [] M := by
  intro n
  induction n with
  | zero => intro x1 x2 x3 hx2 M r h; exact nomatch (show (none : Option (Int32 × sm_M)) = some r from h)
  | succ n ih => exact j_X11_turnTo_14b hx F (f_X11_turnTo_14 F n) ih
def f_X11_turnTo (F : Nat) (x1 : Int32) (M : sm_M) : Option (Int32 × sm_M) := (f_X6_remember F 24 M).bind fun q1 => f_X11_turnTo_14 F F x1 q1.1 (0 : Int32) q1.2
set_option maxRecDepth 100000 in
set_option maxHeartbeats 4000000 in
theorem j_X11_turnTo {sk : List sm_Sh} (hx : sm_ext skX sk) (F : Nat) : ∀ (x1 : Int32) (M : sm_M) (r : Int32 × sm_M), f_X11_turnTo F x1 M = some r → sm_J (md_X11_turnTo, 3, sk, .inl (some (.int r.1)), r.2) 0 [some (.ref 0), some (.int x1), none, none] [] M := by
  intro x1  M r h
  unfold f_X11_turnTo at h
  refine sm_aload_n (q := 1) d_X11_turnTo_0 rfl rfl ?_
  refine sm_getr (q := 4) d_X11_turnTo_1 rfl fl_X11_33 (hx sx_0) rfl ?_
  refine sm_aload_n (q := 5) d_X11_turnTo_4 rfl rfl ?_
  refine sm_getr (q := 8) d_X11_turnTo_5 rfl fl_X11_26 (hx sx_0) rfl ?_
  obtain ⟨q1, e1, h⟩ := sm_bd h
  refine sm_callV (q := 11) (d' := 2) [] [.ref 24] d_X11_turnTo_8 rfl lk_X11_136 (hx sx_26) rfl rfl rfl (Nat.le_of_ble_eq_true rfl) (Nat.le_of_ble_eq_true rfl) (c_X6_remember hx F 24 ⟨hx sx_24, hx sx_25⟩ M _ e1) (st9 := [.ref q1.1]) rfl ?_
  refine sm_astore_n (q := 12) (lt := [some (.ref 0), some (.int x1), some (.ref q1.1), none]) d_X11_turnTo_11 rfl (Nat.le_of_ble_eq_true rfl) rfl rfl ?_
  refine sm_iconst (q := 13) d_X11_turnTo_12 rfl ci_0 ?_
  refine sm_istore_n (q := 14) (lt := [some (.ref 0), some (.int x1), some (.ref q1.1), some (.int (0 : Int32))]) d_X11_turnTo_13 rfl (Nat.le_of_ble_eq_true rfl) rfl rfl ?_
  exact j_X11_turnTo_14 hx F F x1 q1.1 (0 : Int32) (rw_X6_remember hx e1) q1.2 _ h
theorem c_X11_turnTo {sk : List sm_Sh} (hx : sm_ext skX sk) (F : Nat) (x1 : Int32) (M : sm_M) (r : Int32 × sm_M) (h : f_X11_turnTo F x1 M = some r) : sm_Ct yX11_turnTo md_X11_turnTo 3 sk [.ref 0, .int x1] M (.inl (some (.int r.1))) r.2 := sm_enter 2 pn_X11 rfl (Nat.le_of_ble_eq_true rfl) rfl (j_X11_turnTo hx F x1 M r h)
/-! UniversalCycles.rotate(I)I -/
theorem d_X11_rotate_0 : decode cX11_rotate 0 = .ok (.aload_n 0, 1) := by decide +kernel
theorem d_X11_rotate_1 : decode cX11_rotate 1 = .ok (.iload_n 1, 1) := by decide +kernel
theorem d_X11_rotate_2 : decode cX11_rotate 2 = .ok (.invokevirtual 143, 3) := by decide +kernel
theorem d_X11_rotate_5 : decode cX11_rotate 5 = .ok (.aload_n 0, 1) := by decide +kernel
theorem d_X11_rotate_6 : decode cX11_rotate 6 = .ok (.iload_n 1, 1) := by decide +kernel
theorem d_X11_rotate_7 : decode cX11_rotate 7 = .ok (.invokevirtual 224, 3) := by decide +kernel
theorem d_X11_rotate_10 : decode cX11_rotate 10 = .ok (.ireturn, 1) := by decide +kernel
def f_X11_rotate (F : Nat) (x1 : Int32) (M : sm_M) : Option (sm_O × sm_M) := sm_bx (f_X11_needPosition F x1 M) (fun M2 => (f_X11_turnTo F x1 M2).bind fun q4 => some (.inl (some (.int q4.1)), q4.2))
set_option maxRecDepth 100000 in
set_option maxHeartbeats 4000000 in
theorem j_X11_rotate {sk : List sm_Sh} (hx : sm_ext skX sk) (F : Nat) : ∀ (x1 : Int32) (M : sm_M) (r : sm_O × sm_M), f_X11_rotate F x1 M = some r → sm_J (md_X11_rotate, 7, sk, r.1, r.2) 0 [some (.ref 0), some (.int x1)] [] M := by
  intro x1  M r h
  unfold f_X11_rotate at h
  refine sm_aload_n (q := 1) d_X11_rotate_0 rfl rfl ?_
  refine sm_iload_n (q := 2) d_X11_rotate_1 rfl rfl ?_
  rcases sm_bxs h with ⟨v3, M2, e1, h⟩ | ⟨v3, M2, e1, rfl⟩
  · obtain rfl := n_X11_needPosition e1
    refine sm_callV (q := 5) (d' := 6) [] [.int x1] d_X11_rotate_2 rfl lk_X11_143 (hx sx_0) rfl rfl rfl (Nat.le_of_ble_eq_true rfl) (Nat.le_of_ble_eq_true rfl) (c_X11_needPosition hx F x1 M (.inl none, M2) e1) (st9 := []) rfl ?_
    refine sm_aload_n (q := 6) d_X11_rotate_5 rfl rfl ?_
    refine sm_iload_n (q := 7) d_X11_rotate_6 rfl rfl ?_
    obtain ⟨q4, e4, h⟩ := sm_bd h
    refine sm_callV (q := 10) (d' := 3) [] [.int x1] d_X11_rotate_7 rfl lk_X11_224 (hx sx_0) rfl rfl rfl (Nat.le_of_ble_eq_true rfl) (Nat.le_of_ble_eq_true rfl) (c_X11_turnTo hx F x1 M2 _ e4) (st9 := [.int q4.1]) rfl ?_
    obtain rfl := Option.some.inj h
    exact sm_iret d_X11_rotate_10 rfl rfl rfl rfl
  · exact sm_callVX (d' := 6) [] [.int x1] d_X11_rotate_2 lk_X11_143 (hx sx_0) rfl rfl rfl (Nat.le_of_ble_eq_true rfl) (Nat.le_of_ble_eq_true rfl) (c_X11_needPosition hx F x1 M (.inr v3, M2) e1) rfl rfl
theorem c_X11_rotate {sk : List sm_Sh} (hx : sm_ext skX sk) (F : Nat) (x1 : Int32) (M : sm_M) (r : sm_O × sm_M) (h : f_X11_rotate F x1 M = some r) : sm_Ct yX11_rotate md_X11_rotate 7 sk [.ref 0, .int x1] M (r.1) r.2 := sm_enter 0 pn_X11 rfl (Nat.le_of_ble_eq_true rfl) rfl (j_X11_rotate hx F x1 M r h)
/-! UniversalCycles.rotateToLowest()I -/
theorem d_X11_rotateToLowest_0 : decode cX11_rotateToLowest 0 = .ok (.aload_n 0, 1) := by decide +kernel
theorem d_X11_rotateToLowest_1 : decode cX11_rotateToLowest 1 = .ok (.invokevirtual 209, 3) := by decide +kernel
theorem d_X11_rotateToLowest_4 : decode cX11_rotateToLowest 4 = .ok (.aload_n 0, 1) := by decide +kernel
theorem d_X11_rotateToLowest_5 : decode cX11_rotateToLowest 5 = .ok (.getfield 26, 3) := by decide +kernel
theorem d_X11_rotateToLowest_8 : decode cX11_rotateToLowest 8 = .ok (.invokevirtual 227, 3) := by decide +kernel
theorem d_X11_rotateToLowest_11 : decode cX11_rotateToLowest 11 = .ok (.istore_n 1, 1) := by decide +kernel
theorem d_X11_rotateToLowest_12 : decode cX11_rotateToLowest 12 = .ok (.aload_n 0, 1) := by decide +kernel
theorem d_X11_rotateToLowest_13 : decode cX11_rotateToLowest 13 = .ok (.iload_n 1, 1) := by decide +kernel
theorem d_X11_rotateToLowest_14 : decode cX11_rotateToLowest 14 = .ok (.invokevirtual 224, 3) := by decide +kernel
theorem d_X11_rotateToLowest_17 : decode cX11_rotateToLowest 17 = .ok (.pop, 1) := by decide +kernel
theorem d_X11_rotateToLowest_18 : decode cX11_rotateToLowest 18 = .ok (.iload_n 1, 1) := by decide +kernel
theorem d_X11_rotateToLowest_19 : decode cX11_rotateToLowest 19 = .ok (.ireturn, 1) := by decide +kernel
def f_X11_rotateToLowest (F : Nat) (M : sm_M) : Option (sm_O × sm_M) := sm_bx (f_X11_needSequence F M) (fun M2 => (f_X7_lowestRotation F 24 M2).bind fun q4 => (f_X11_turnTo F q4 M2).bind fun q5 => some (.inl (some (.int q4)), q5.2))
set_option maxRecDepth 100000 in
set_option maxHeartbeats 4000000 in
theorem j_X11_rotateToLowest {sk : List sm_Sh} (hx : sm_ext skX sk) (F : Nat) : ∀ (M : sm_M) (r : sm_O × sm_M), f_X11_rotateToLowest F M = some r → sm_J (md_X11_rotateToLowest, 7, sk, r.1, r.2) 0 [some (.ref 0), none] [] M := by
  intro   M r h
  unfold f_X11_rotateToLowest at h
  refine sm_aload_n (q := 1) d_X11_rotateToLowest_0 rfl rfl ?_
  rcases sm_bxs h with ⟨v3, M2, e1, h⟩ | ⟨v3, M2, e1, rfl⟩
  · obtain rfl := n_X11_needSequence e1
    refine sm_callV (q := 4) (d' := 6) [] [] d_X11_rotateToLowest_1 rfl lk_X11_209 (hx sx_0) rfl rfl rfl (Nat.le_of_ble_eq_true rfl) (Nat.le_of_ble_eq_true rfl) (c_X11_needSequence hx F M (.inl none, M2) e1) (st9 := []) rfl ?_
    refine sm_aload_n (q := 5) d_X11_rotateToLowest_4 rfl rfl ?_
    refine sm_getr (q := 8) d_X11_rotateToLowest_5 rfl fl_X11_26 (hx sx_0) rfl ?_
    obtain ⟨q4, e4, h⟩ := sm_bd h
    refine sm_callV (q := 11) (d' := 2) [] [] d_X11_rotateToLowest_8 rfl lk_X11_227 (hx sx_24) rfl rfl rfl (Nat.le_of_ble_eq_true rfl) (Nat.le_of_ble_eq_true rfl) (c_X7_lowestRotation hx F 24 ⟨hx sx_24, hx sx_25⟩ M2 _ e4) (st9 := [.int q4]) rfl ?_
    refine sm_istore_n (q := 12) (lt := [some (.ref 0), some (.int q4)]) d_X11_rotateToLowest_11 rfl (Nat.le_of_ble_eq_true rfl) rfl rfl ?_
    refine sm_aload_n (q := 13) d_X11_rotateToLowest_12 rfl rfl ?_
    refine sm_iload_n (q := 14) d_X11_rotateToLowest_13 rfl rfl ?_
    obtain ⟨q5, e5, h⟩ := sm_bd h
    refine sm_callV (q := 17) (d' := 3) [] [.int q4] d_X11_rotateToLowest_14 rfl lk_X11_224 (hx sx_0) rfl rfl rfl (Nat.le_of_ble_eq_true rfl) (Nat.le_of_ble_eq_true rfl) (c_X11_turnTo hx F q4 M2 _ e5) (st9 := [.int q5.1]) rfl ?_
    refine sm_pop (q := 18) d_X11_rotateToLowest_17 rfl rfl ?_
    refine sm_iload_n (q := 19) d_X11_rotateToLowest_18 rfl rfl ?_
    obtain rfl := Option.some.inj h
    exact sm_iret d_X11_rotateToLowest_19 rfl rfl rfl rfl
  · exact sm_callVX (d' := 6) [] [] d_X11_rotateToLowest_1 lk_X11_209 (hx sx_0) rfl rfl rfl (Nat.le_of_ble_eq_true rfl) (Nat.le_of_ble_eq_true rfl) (c_X11_needSequence hx F M (.inr v3, M2) e1) rfl rfl
theorem c_X11_rotateToLowest {sk : List sm_Sh} (hx : sm_ext skX sk) (F : Nat) (M : sm_M) (r : sm_O × sm_M) (h : f_X11_rotateToLowest F M = some r) : sm_Ct yX11_rotateToLowest md_X11_rotateToLowest 7 sk [.ref 0] M (r.1) r.2 := sm_enter 1 pn_X11 rfl (Nat.le_of_ble_eq_true rfl) rfl (j_X11_rotateToLowest hx F M r h)
/-! UniversalCycles.reverse()I -/
theorem d_X11_reverse_0 : decode cX11_reverse 0 = .ok (.aload_n 0, 1) := by decide +kernel
theorem d_X11_reverse_1 : decode cX11_reverse 1 = .ok (.getfield 33, 3) := by decide +kernel
theorem d_X11_reverse_4 : decode cX11_reverse 4 = .ok (.aload_n 0, 1) := by decide +kernel
theorem d_X11_reverse_5 : decode cX11_reverse 5 = .ok (.getfield 26, 3) := by decide +kernel
theorem d_X11_reverse_8 : decode cX11_reverse 8 = .ok (.invokevirtual 136, 3) := by decide +kernel
theorem d_X11_reverse_11 : decode cX11_reverse 11 = .ok (.astore_n 1, 1) := by decide +kernel
theorem d_X11_reverse_12 : decode cX11_reverse 12 = .ok (.iconst 0, 1) := by decide +kernel
theorem d_X11_reverse_13 : decode cX11_reverse 13 = .ok (.istore_n 2, 1) := by decide +kernel
theorem d_X11_reverse_14 : decode cX11_reverse 14 = .ok (.iload_n 2, 1) := by decide +kernel
theorem d_X11_reverse_15 : decode cX11_reverse 15 = .ok (.aload_n 1, 1) := by decide +kernel
theorem d_X11_reverse_16 : decode cX11_reverse 16 = .ok (.getfield 130, 3) := by decide +kernel
theorem d_X11_reverse_19 : decode cX11_reverse 19 = .ok (.if_icmp .ge 31, 3) := by decide +kernel
theorem d_X11_reverse_22 : decode cX11_reverse 22 = .ok (.aload_n 0, 1) := by decide +kernel
theorem d_X11_reverse_23 : decode cX11_reverse 23 = .ok (.getfield 26, 3) := by decide +kernel
theorem d_X11_reverse_26 : decode cX11_reverse 26 = .ok (.getfield 146, 3) := by decide +kernel
theorem d_X11_reverse_29 : decode cX11_reverse 29 = .ok (.iload_n 2, 1) := by decide +kernel
theorem d_X11_reverse_30 : decode cX11_reverse 30 = .ok (.aload_n 1, 1) := by decide +kernel
theorem d_X11_reverse_31 : decode cX11_reverse 31 = .ok (.getfield 146, 3) := by decide +kernel
theorem d_X11_reverse_34 : decode cX11_reverse 34 = .ok (.aload_n 1, 1) := by decide +kernel
theorem d_X11_reverse_35 : decode cX11_reverse 35 = .ok (.getfield 130, 3) := by decide +kernel
theorem d_X11_reverse_38 : decode cX11_reverse 38 = .ok (.iconst 1, 1) := by decide +kernel
theorem d_X11_reverse_39 : decode cX11_reverse 39 = .ok (.isub, 1) := by decide +kernel
theorem d_X11_reverse_40 : decode cX11_reverse 40 = .ok (.iload_n 2, 1) := by decide +kernel
theorem d_X11_reverse_41 : decode cX11_reverse 41 = .ok (.isub, 1) := by decide +kernel
theorem d_X11_reverse_42 : decode cX11_reverse 42 = .ok (.iaload, 1) := by decide +kernel
theorem d_X11_reverse_43 : decode cX11_reverse 43 = .ok (.iastore, 1) := by decide +kernel
theorem d_X11_reverse_44 : decode cX11_reverse 44 = .ok (.iinc 2 1, 3) := by decide +kernel
theorem d_X11_reverse_47 : decode cX11_reverse 47 = .ok (.goto (-33), 3) := by decide +kernel
theorem d_X11_reverse_50 : decode cX11_reverse 50 = .ok (.aload_n 0, 1) := by decide +kernel
theorem d_X11_reverse_51 : decode cX11_reverse 51 = .ok (.getfield 26, 3) := by decide +kernel
theorem d_X11_reverse_54 : decode cX11_reverse 54 = .ok (.getfield 130, 3) := by decide +kernel
theorem d_X11_reverse_57 : decode cX11_reverse 57 = .ok (.ireturn, 1) := by decide +kernel
def f_X11_reverse_14b (F : Nat) (kb14 : Nat → Int32 → sm_M → Option (Int32 × sm_M)) (x1 : Nat) (x2 : Int32) (M : sm_M) : Option (Int32 × sm_M) := if (M.1 x1 1) ≤ x2 then (some ((M.1 24 1), M)) else (sm_g (sm_ib (((M.1 x1 1) - (1 : Int32)) - x2) 240) (sm_g (sm_ib x2 240) (kb14 x1 (x2 + 1) ((sm_mi M 25 x2.toNatClampNeg (M.1 (x1 + 1) (((M.1 x1 1) - (1 : Int32)) - x2).toNatClampNeg))))))
set_option maxRecDepth 100000 in
set_option maxHeartbeats 4000000 in
theorem j_X11_reverse_14b {sk : List sm_Sh} (hx : sm_ext skX sk) (F : Nat) (kb14 : Nat → Int32 → sm_M → Option (Int32 × sm_M)) (hkb14 : ∀ (x1 : Nat) (x2 : Int32) (hx1 : sm_row sk x1) (M : sm_M) (r : Int32 × sm_M), kb14 x1 x2 M = some r → sm_J (md_X11_reverse, 3, sk, .inl (some (.int r.1)), r.2) 14 [some (.ref 0), some (.ref x1), some (.int x2)] [] M) : ∀ (x1 : Nat) (x2 : Int32) (hx1 : sm_row sk x1) (M : sm_M) (r : Int32 × sm_M), f_X11_reverse_14b F kb14 x1 x2 M = some r → sm_J (md_X11_reverse, 3, sk, .inl (some (.int r.1)), r.2) 14 [some (.ref 0), some (.ref x1), some (.int x2)] [] M := by
  intro x1 x2 hx1 M r h
  unfold f_X11_reverse_14b at h
  refine sm_iload_n (q := 15) d_X11_reverse_14 rfl rfl ?_
  refine sm_aload_n (q := 16) d_X11_reverse_15 rfl rfl ?_
  refine sm_geti (q := 19) d_X11_reverse_16 rfl fl_X11_130 hx1.1 rfl ?_
  refine sm_icmp_ge (q := 22) (t := 50) d_X11_reverse_19 rfl rfl (fun c1 => ?_) (fun c1 => ?_)
  · replace h := sm_it c1 h
    refine sm_aload_n (q := 51) d_X11_reverse_50 rfl rfl ?_
    refine sm_getr (q := 54) d_X11_reverse_51 rfl fl_X11_26 (hx sx_0) rfl ?_
    refine sm_geti (q := 57) d_X11_reverse_54 rfl fl_X11_130 (hx sx_24) rfl ?_
    obtain rfl := Option.some.inj h
    exact sm_iret d_X11_reverse_57 rfl rfl rfl rfl
  · replace h := sm_if c1 h
    refine sm_aload_n (q := 23) d_X11_reverse_22 rfl rfl ?_
    refine sm_getr (q := 26) d_X11_reverse_23 rfl fl_X11_26 (hx sx_0) rfl ?_
    refine sm_getr (q := 29) d_X11_reverse_26 rfl fl_X11_146 (hx sx_24) rfl ?_
    refine sm_iload_n (q := 30) d_X11_reverse_29 rfl rfl ?_
    refine sm_aload_n (q := 31) d_X11_reverse_30 rfl rfl ?_
    refine sm_getr (q := 34) d_X11_reverse_31 rfl fl_X11_146 hx1.1 rfl ?_
    refine sm_aload_n (q := 35) d_X11_reverse_34 rfl rfl ?_
    refine sm_geti (q := 38) d_X11_reverse_35 rfl fl_X11_130 hx1.1 rfl ?_
    refine sm_iconst (q := 39) d_X11_reverse_38 rfl ci_1 ?_
    refine sm_isub (q := 40) d_X11_reverse_39 rfl ?_
    refine sm_iload_n (q := 41) d_X11_reverse_40 rfl rfl ?_
    refine sm_isub (q := 42) d_X11_reverse_41 rfl ?_
    obtain ⟨g2, h⟩ := sm_gt h
    refine sm_iaload (q := 43) d_X11_reverse_42 rfl hx1.2 (sm_ib_of g2) ?_
    obtain ⟨g3, h⟩ := sm_gt h
    refine sm_iastore (q := 44) d_X11_reverse_43 rfl (hx sx_25) (sm_ib_of g3) ?_
    refine sm_iinc (q := 47) (v := (x2 + 1)) (lt := [some (.ref 0), some (.ref x1), some (.int (x2 + 1))]) d_X11_reverse_44 rfl rfl (ii_1 _) (Nat.le_of_ble_eq_true rfl) rfl rfl ?_
    refine sm_goto (t := 14) d_X11_reverse_47 rfl ?_
    exact hkb14 x1 (x2 + 1) hx1 ((sm_mi M 25 x2.toNatClampNeg (M.1 (x1 + 1) (((M.1 x1 1) - (1 : Int32)) - x2).toNatClampNeg))) _ h
def f_X11_reverse_14 (F : Nat) (n : Nat) : Nat → Int32 → sm_M → Option (Int32 × sm_M) := match n with
 | 0 => fun _ _ _ => none
 | n + 1 => f_X11_reverse_14b F (f_X11_reverse_14 F n)
theorem j_X11_reverse_14 {sk : List sm_Sh} (hx : sm_ext skX sk) (F : Nat) : ∀ (n : Nat) (x1 : Nat) (x2 : Int32) (hx1 : sm_row sk x1) (M : sm_M) (r : Int32 × sm_M), f_X11_reverse_14 F n x1 x2 M = some r → sm_J (md_X11_reverse, 3, sk, .inl (some (.int r.1)), r.2) 14 [some (.ref 0), some (.ref x1), some (.int x2)] [] M := by
  intro n
  induction n with
  | zero => intro x1 x2 hx1 M r h; exact nomatch (show (none : Option (Int32 × sm_M)) = some r from h)
  | succ n ih => exact j_X11_reverse_14b hx F (f_X11_reverse_14 F n) ih
def f_X11_reverse (F : Nat) (M : sm_M) : Option (Int32 × sm_M) := (f_X6_remember F 24 M).bind fun q1 => f_X11_reverse_14 F F q1.1 (0 : Int32) q1.2
set_option maxRecDepth 100000 in
set_option maxHeartbeats 4000000 in
theorem j_X11_reverse {sk : List sm_Sh} (hx : sm_ext skX sk) (F : Nat) : ∀ (M : sm_M) (r : Int32 × sm_M), f_X11_reverse F M = some r → sm_J (md_X11_reverse, 3, sk, .inl (some (.int r.1)), r.2) 0 [some (.ref 0), none, none] [] M := by
  intro   M r h
  unfold f_X11_reverse at h
  refine sm_aload_n (q := 1) d_X11_reverse_0 rfl rfl ?_
  refine sm_getr (q := 4) d_X11_reverse_1 rfl fl_X11_33 (hx sx_0) rfl ?_
  refine sm_aload_n (q := 5) d_X11_reverse_4 rfl rfl ?_
  refine sm_getr (q := 8) d_X11_reverse_5 rfl fl_X11_26 (hx sx_0) rfl ?_
  obtain ⟨q1, e1, h⟩ := sm_bd h
  refine sm_callV (q := 11) (d' := 2) [] [.ref 24] d_X11_reverse_8 rfl lk_X11_136 (hx sx_26) rfl rfl rfl (Nat.le_of_ble_eq_true rfl) (Nat.le_of_ble_eq_true rfl) (c_X6_remember hx F 24 ⟨hx sx_24, hx sx_25⟩ M _ e1) (st9 := [.ref q1.1]) rfl ?_
  refine sm_astore_n (q := 12) (lt := [some (.ref 0), some (.ref q1.1), none]) d_X11_reverse_11 rfl (Nat.le_of_ble_eq_true rfl) rfl rfl ?_
  refine sm_iconst (q := 13) d_X11_reverse_12 rfl ci_0 ?_
  refine sm_istore_n (q := 14) (lt := [some (.ref 0), some (.ref q1.1), some (.int (0 : Int32))]) d_X11_reverse_13 rfl (Nat.le_of_ble_eq_true rfl) rfl rfl ?_
  exact j_X11_reverse_14 hx F F q1.1 (0 : Int32) (rw_X6_remember hx e1) q1.2 _ h
theorem c_X11_reverse {sk : List sm_Sh} (hx : sm_ext skX sk) (F : Nat) (M : sm_M) (r : Int32 × sm_M) (h : f_X11_reverse F M = some r) : sm_Ct yX11_reverse md_X11_reverse 3 sk [.ref 0] M (.inl (some (.int r.1))) r.2 := sm_enter 2 pn_X11 rfl (Nat.le_of_ble_eq_true rfl) rfl (j_X11_reverse hx F M r h)
/-! UniversalCycles.complement()I -/
theorem d_X11_complement_0 : decode cX11_complement 0 = .ok (.aload_n 0, 1) := by decide +kernel
theorem d_X11_complement_1 : decode cX11_complement 1 = .ok (.getfield 33, 3) := by decide +kernel
theorem d_X11_complement_4 : decode cX11_complement 4 = .ok (.aload_n 0, 1) := by decide +kernel
theorem d_X11_complement_5 : decode cX11_complement 5 = .ok (.getfield 26, 3) := by decide +kernel
theorem d_X11_complement_8 : decode cX11_complement 8 = .ok (.invokevirtual 136, 3) := by decide +kernel
theorem d_X11_complement_11 : decode cX11_complement 11 = .ok (.pop, 1) := by decide +kernel
theorem d_X11_complement_12 : decode cX11_complement 12 = .ok (.iconst 0, 1) := by decide +kernel
theorem d_X11_complement_13 : decode cX11_complement 13 = .ok (.istore_n 1, 1) := by decide +kernel
theorem d_X11_complement_14 : decode cX11_complement 14 = .ok (.iload_n 1, 1) := by decide +kernel
theorem d_X11_complement_15 : decode cX11_complement 15 = .ok (.aload_n 0, 1) := by decide +kernel
theorem d_X11_complement_16 : decode cX11_complement 16 = .ok (.getfield 26, 3) := by decide +kernel
theorem d_X11_complement_19 : decode cX11_complement 19 = .ok (.getfield 130, 3) := by decide +kernel
theorem d_X11_complement_22 : decode cX11_complement 22 = .ok (.if_icmp .ge 37, 3) := by decide +kernel
theorem d_X11_complement_25 : decode cX11_complement 25 = .ok (.aload_n 0, 1) := by decide +kernel
theorem d_X11_complement_26 : decode cX11_complement 26 = .ok (.getfield 26, 3) := by decide +kernel
theorem d_X11_complement_29 : decode cX11_complement 29 = .ok (.getfield 146, 3) := by decide +kernel
theorem d_X11_complement_32 : decode cX11_complement 32 = .ok (.iload_n 1, 1) := by decide +kernel
theorem d_X11_complement_33 : decode cX11_complement 33 = .ok (.aload_n 0, 1) := by decide +kernel
theorem d_X11_complement_34 : decode cX11_complement 34 = .ok (.getfield 10, 3) := by decide +kernel
theorem d_X11_complement_37 : decode cX11_complement 37 = .ok (.getfield 230, 3) := by decide +kernel
theorem d_X11_complement_40 : decode cX11_complement 40 = .ok (.iconst 1, 1) := by decide +kernel
theorem d_X11_complement_41 : decode cX11_complement 41 = .ok (.isub, 1) := by decide +kernel
theorem d_X11_complement_42 : decode cX11_complement 42 = .ok (.aload_n 0, 1) := by decide +kernel
theorem d_X11_complement_43 : decode cX11_complement 43 = .ok (.getfield 26, 3) := by decide +kernel
theorem d_X11_complement_46 : decode cX11_complement 46 = .ok (.getfield 146, 3) := by decide +kernel
theorem d_X11_complement_49 : decode cX11_complement 49 = .ok (.iload_n 1, 1) := by decide +kernel
theorem d_X11_complement_50 : decode cX11_complement 50 = .ok (.iaload, 1) := by decide +kernel
theorem d_X11_complement_51 : decode cX11_complement 51 = .ok (.isub, 1) := by decide +kernel
theorem d_X11_complement_52 : decode cX11_complement 52 = .ok (.iastore, 1) := by decide +kernel
theorem d_X11_complement_53 : decode cX11_complement 53 = .ok (.iinc 1 1, 3) := by decide +kernel
theorem d_X11_complement_56 : decode cX11_complement 56 = .ok (.goto (-42), 3) := by decide +kernel
theorem d_X11_complement_59 : decode cX11_complement 59 = .ok (.aload_n 0, 1) := by decide +kernel
theorem d_X11_complement_60 : decode cX11_complement 60 = .ok (.getfield 26, 3) := by decide +kernel
theorem d_X11_complement_63 : decode cX11_complement 63 = .ok (.getfield 130, 3) := by decide +kernel
theorem d_X11_complement_66 : decode cX11_complement 66 = .ok (.ireturn, 1) := by decide +kernel
def f_X11_complement_14b (F : Nat) (kb14 : Int32 → sm_M → Option (Int32 × sm_M)) (x1 : Int32) (M : sm_M) : Option (Int32 × sm_M) := if (M.1 24 1) ≤ x1 then (some ((M.1 24 1), M)) else (sm_g (sm_ib x1 240) (sm_g (sm_ib x1 240) (kb14 (x1 + 1) ((sm_mi M 25 x1.toNatClampNeg (((M.1 1 3) - (1 : Int32)) - (M.1 25 x1.toNatClampNeg)))))))
set_option maxRecDepth 100000 in
set_option maxHeartbeats 4000000 in
theorem j_X11_complement_14b {sk : List sm_Sh} (hx : sm_ext skX sk) (F : Nat) (kb14 : Int32 → sm_M → Option (Int32 × sm_M)) (hkb14 : ∀ (x1 : Int32) (M : sm_M) (r : Int32 × sm_M), kb14 x1 M = some r → sm_J (md_X11_complement, 3, sk, .inl (some (.int r.1)), r.2) 14 [some (.ref 0), some (.int x1)] [] M) : ∀ (x1 : Int32) (M : sm_M) (r : Int32 × sm_M), f_X11_complement_14b F kb14 x1 M = some r → sm_J (md_X11_complement, 3, sk, .inl (some (.int r.1)), r.2) 14 [some (.ref 0), some (.int x1)] [] M := by
  intro x1  M r h
  unfold f_X11_complement_14b at h
  refine sm_iload_n (q := 15) d_X11_complement_14 rfl rfl ?_
  refine sm_aload_n (q := 16) d_X11_complement_15 rfl rfl ?_
  refine sm_getr (q := 19) d_X11_complement_16 rfl fl_X11_26 (hx sx_0) rfl ?_
  refine sm_geti (q := 22) d_X11_complement_19 rfl fl_X11_130 (hx sx_24) rfl ?_
  refine sm_icmp_ge (q := 25) (t := 59) d_X11_complement_22 rfl rfl (fun c1 => ?_) (fun c1 => ?_)
  · replace h := sm_it c1 h
    refine sm_aload_n (q := 60) d_X11_complement_59 rfl rfl ?_
    refine sm_getr (q := 63) d_X11_complement_60 rfl fl_X11_26 (hx sx_0) rfl ?_
    refine sm_geti (q := 66) d_X11_complement_63 rfl fl_X11_130 (hx sx_24) rfl ?_
    obtain rfl := Option.some.inj h
    exact sm_iret d_X11_complement_66 rfl rfl rfl rfl
  · replace h := sm_if c1 h
    refine sm_aload_n (q := 26) d_X11_complement_25 rfl rfl ?_
    refine sm_getr (q := 29) d_X11_complement_26 rfl fl_X11_26 (hx sx_0) rfl ?_
    refine sm_getr (q := 32) d_X11_complement_29 rfl fl_X11_146 (hx sx_24) rfl ?_
    refine sm_iload_n (q := 33) d_X11_complement_32 rfl rfl ?_
    refine sm_aload_n (q := 34) d_X11_complement_33 rfl rfl ?_
    refine sm_getr (q := 37) d_X11_complement_34 rfl fl_X11_10 (hx sx_0) rfl ?_
    refine sm_geti (q := 40) d_X11_complement_37 rfl fl_X11_230 (hx sx_1) rfl ?_
    refine sm_iconst (q := 41) d_X11_complement_40 rfl ci_1 ?_
    refine sm_isub (q := 42) d_X11_complement_41 rfl ?_
    refine sm_aload_n (q := 43) d_X11_complement_42 rfl rfl ?_
    refine sm_getr (q := 46) d_X11_complement_43 rfl fl_X11_26 (hx sx_0) rfl ?_
    refine sm_getr (q := 49) d_X11_complement_46 rfl fl_X11_146 (hx sx_24) rfl ?_
    refine sm_iload_n (q := 50) d_X11_complement_49 rfl rfl ?_
    obtain ⟨g2, h⟩ := sm_gt h
    refine sm_iaload (q := 51) d_X11_complement_50 rfl (hx sx_25) (sm_ib_of g2) ?_
    refine sm_isub (q := 52) d_X11_complement_51 rfl ?_
    obtain ⟨g3, h⟩ := sm_gt h
    refine sm_iastore (q := 53) d_X11_complement_52 rfl (hx sx_25) (sm_ib_of g3) ?_
    refine sm_iinc (q := 56) (v := (x1 + 1)) (lt := [some (.ref 0), some (.int (x1 + 1))]) d_X11_complement_53 rfl rfl (ii_1 _) (Nat.le_of_ble_eq_true rfl) rfl rfl ?_
    refine sm_goto (t := 14) d_X11_complement_56 rfl ?_
    exact hkb14 (x1 + 1) ((sm_mi M 25 x1.toNatClampNeg (((M.1 1 3) - (1 : Int32)) - (M.1 25 x1.toNatClampNeg)))) _ h
def f_X11_complement_14 (F : Nat) (n : Nat) : Int32 → sm_M → Option (Int32 × sm_M) := match n with
 | 0 => fun _ _ => none
 | n + 1 => f_X11_complement_14b F (f_X11_complement_14 F n)
theorem j_X11_complement_14 {sk : List sm_Sh} (hx : sm_ext skX sk) (F : Nat) : ∀ (n : Nat) (x1 : Int32) (M : sm_M) (r : Int32 × sm_M), f_X11_complement_14 F n x1 M = some r → sm_J (md_X11_complement, 3, sk, .inl (some (.int r.1)), r.2) 14 [some (.ref 0), some (.int x1)] [] M := by
  intro n
  induction n with
  | zero => intro x1  M r h; exact nomatch (show (none : Option (Int32 × sm_M)) = some r from h)
  | succ n ih => exact j_X11_complement_14b hx F (f_X11_complement_14 F n) ih
def f_X11_complement (F : Nat) (M : sm_M) : Option (Int32 × sm_M) := (f_X6_remember F 24 M).bind fun q1 => f_X11_complement_14 F F (0 : Int32) q1.2
set_option maxRecDepth 100000 in
set_option maxHeartbeats 4000000 in
theorem j_X11_complement {sk : List sm_Sh} (hx : sm_ext skX sk) (F : Nat) : ∀ (M : sm_M) (r : Int32 × sm_M), f_X11_complement F M = some r → sm_J (md_X11_complement, 3, sk, .inl (some (.int r.1)), r.2) 0 [some (.ref 0), none] [] M := by
  intro   M r h
  unfold f_X11_complement at h
  refine sm_aload_n (q := 1) d_X11_complement_0 rfl rfl ?_
  refine sm_getr (q := 4) d_X11_complement_1 rfl fl_X11_33 (hx sx_0) rfl ?_
  refine sm_aload_n (q := 5) d_X11_complement_4 rfl rfl ?_
  refine sm_getr (q := 8) d_X11_complement_5 rfl fl_X11_26 (hx sx_0) rfl ?_
  obtain ⟨q1, e1, h⟩ := sm_bd h
  refine sm_callV (q := 11) (d' := 2) [] [.ref 24] d_X11_complement_8 rfl lk_X11_136 (hx sx_26) rfl rfl rfl (Nat.le_of_ble_eq_true rfl) (Nat.le_of_ble_eq_true rfl) (c_X6_remember hx F 24 ⟨hx sx_24, hx sx_25⟩ M _ e1) (st9 := [.ref q1.1]) rfl ?_
  refine sm_pop (q := 12) d_X11_complement_11 rfl rfl ?_
  refine sm_iconst (q := 13) d_X11_complement_12 rfl ci_0 ?_
  refine sm_istore_n (q := 14) (lt := [some (.ref 0), some (.int (0 : Int32))]) d_X11_complement_13 rfl (Nat.le_of_ble_eq_true rfl) rfl rfl ?_
  exact j_X11_complement_14 hx F F (0 : Int32) q1.2 _ h
theorem c_X11_complement {sk : List sm_Sh} (hx : sm_ext skX sk) (F : Nat) (M : sm_M) (r : Int32 × sm_M) (h : f_X11_complement F M = some r) : sm_Ct yX11_complement md_X11_complement 3 sk [.ref 0] M (.inl (some (.int r.1))) r.2 := sm_enter 1 pn_X11 rfl (Nat.le_of_ble_eq_true rfl) rfl (j_X11_complement hx F M r h)
/-! UniversalCycles.exchange(II)I -/
theorem d_X11_exchange_0 : decode cX11_exchange 0 = .ok (.aload_n 0, 1) := by decide +kernel
theorem d_X11_exchange_1 : decode cX11_exchange 1 = .ok (.iload_n 1, 1) := by decide +kernel
theorem d_X11_exchange_2 : decode cX11_exchange 2 = .ok (.invokevirtual 127, 3) := by decide +kernel
theorem d_X11_exchange_5 : decode cX11_exchange 5 = .ok (.aload_n 0, 1) := by decide +kernel
theorem d_X11_exchange_6 : decode cX11_exchange 6 = .ok (.iload_n 2, 1) := by decide +kernel
theorem d_X11_exchange_7 : decode cX11_exchange 7 = .ok (.invokevirtual 127, 3) := by decide +kernel
theorem d_X11_exchange_10 : decode cX11_exchange 10 = .ok (.aload_n 0, 1) := by decide +kernel
theorem d_X11_exchange_11 : decode cX11_exchange 11 = .ok (.getfield 33, 3) := by decide +kernel
theorem d_X11_exchange_14 : decode cX11_exchange 14 = .ok (.aload_n 0, 1) := by decide +kernel
theorem d_X11_exchange_15 : decode cX11_exchange 15 = .ok (.getfield 26, 3) := by decide +kernel
theorem d_X11_exchange_18 : decode cX11_exchange 18 = .ok (.invokevirtual 136, 3) := by decide +kernel
theorem d_X11_exchange_21 : decode cX11_exchange 21 = .ok (.pop, 1) := by decide +kernel
theorem d_X11_exchange_22 : decode cX11_exchange 22 = .ok (.iconst 0, 1) := by decide +kernel
theorem d_X11_exchange_23 : decode cX11_exchange 23 = .ok (.istore_n 3, 1) := by decide +kernel
theorem d_X11_exchange_24 : decode cX11_exchange 24 = .ok (.iconst 0, 1) := by decide +kernel
theorem d_X11_exchange_25 : decode cX11_exchange 25 = .ok (.istore 4, 2) := by decide +kernel
theorem d_X11_exchange_27 : decode cX11_exchange 27 = .ok (.iload 4, 2) := by decide +kernel
theorem d_X11_exchange_29 : decode cX11_exchange 29 = .ok (.aload_n 0, 1) := by decide +kernel
theorem d_X11_exchange_30 : decode cX11_exchange 30 = .ok (.getfield 26, 3) := by decide +kernel
theorem d_X11_exchange_33 : decode cX11_exchange 33 = .ok (.getfield 130, 3) := by decide +kernel
theorem d_X11_exchange_36 : decode cX11_exchange 36 = .ok (.if_icmp .ge 57, 3) := by decide +kernel
theorem d_X11_exchange_39 : decode cX11_exchange 39 = .ok (.aload_n 0, 1) := by decide +kernel
theorem d_X11_exchange_40 : decode cX11_exchange 40 = .ok (.getfield 26, 3) := by decide +kernel
theorem d_X11_exchange_43 : decode cX11_exchange 43 = .ok (.getfield 146, 3) := by decide +kernel
theorem d_X11_exchange_46 : decode cX11_exchange 46 = .ok (.iload 4, 2) := by decide +kernel
theorem d_X11_exchange_48 : decode cX11_exchange 48 = .ok (.iaload, 1) := by decide +kernel
theorem d_X11_exchange_49 : decode cX11_exchange 49 = .ok (.istore 5, 2) := by decide +kernel
theorem d_X11_exchange_51 : decode cX11_exchange 51 = .ok (.iload 5, 2) := by decide +kernel
theorem d_X11_exchange_53 : decode cX11_exchange 53 = .ok (.iload_n 1, 1) := by decide +kernel
theorem d_X11_exchange_54 : decode cX11_exchange 54 = .ok (.if_icmp .eq 9, 3) := by decide +kernel
theorem d_X11_exchange_57 : decode cX11_exchange 57 = .ok (.iload 5, 2) := by decide +kernel
theorem d_X11_exchange_59 : decode cX11_exchange 59 = .ok (.iload_n 2, 1) := by decide +kernel
theorem d_X11_exchange_60 : decode cX11_exchange 60 = .ok (.if_icmp .ne 27, 3) := by decide +kernel
theorem d_X11_exchange_63 : decode cX11_exchange 63 = .ok (.aload_n 0, 1) := by decide +kernel
theorem d_X11_exchange_64 : decode cX11_exchange 64 = .ok (.getfield 26, 3) := by decide +kernel
theorem d_X11_exchange_67 : decode cX11_exchange 67 = .ok (.getfield 146, 3) := by decide +kernel
theorem d_X11_exchange_70 : decode cX11_exchange 70 = .ok (.iload 4, 2) := by decide +kernel
theorem d_X11_exchange_72 : decode cX11_exchange 72 = .ok (.iload 5, 2) := by decide +kernel
theorem d_X11_exchange_74 : decode cX11_exchange 74 = .ok (.iload_n 1, 1) := by decide +kernel
theorem d_X11_exchange_75 : decode cX11_exchange 75 = .ok (.if_icmp .ne 7, 3) := by decide +kernel
theorem d_X11_exchange_78 : decode cX11_exchange 78 = .ok (.iload_n 2, 1) := by decide +kernel
theorem d_X11_exchange_79 : decode cX11_exchange 79 = .ok (.goto 4, 3) := by decide +kernel
theorem d_X11_exchange_82 : decode cX11_exchange 82 = .ok (.iload_n 1, 1) := by decide +kernel
theorem d_X11_exchange_83 : decode cX11_exchange 83 = .ok (.iastore, 1) := by decide +kernel
theorem d_X11_exchange_84 : decode cX11_exchange 84 = .ok (.iinc 3 1, 3) := by decide +kernel
theorem d_X11_exchange_87 : decode cX11_exchange 87 = .ok (.iinc 4 1, 3) := by decide +kernel
theorem d_X11_exchange_90 : decode cX11_exchange 90 = .ok (.goto (-63), 3) := by decide +kernel
theorem d_X11_exchange_93 : decode cX11_exchange 93 = .ok (.iload_n 3, 1) := by decide +kernel
theorem d_X11_exchange_94 : decode cX11_exchange 94 = .ok (.ireturn, 1) := by decide +kernel
def f_X11_exchange_87 (F : Nat) (kb27 : Int32 → Int32 → Int32 → Int32 → sm_M → Option (sm_O × sm_M)) (x1 : Int32) (x2 : Int32) (x3 : Int32) (x4 : Int32) (M : sm_M) : Option (sm_O × sm_M) := kb27 x1 x2 x3 (x4 + 1) M
set_option maxRecDepth 100000 in
set_option maxHeartbeats 4000000 in
theorem j_X11_exchange_87 {sk : List sm_Sh} (hx : sm_ext skX sk) (F : Nat) (kb27 : Int32 → Int32 → Int32 → Int32 → sm_M → Option (sm_O × sm_M)) (hkb27 : ∀ (x1 : Int32) (x2 : Int32) (x3 : Int32) (x4 : Int32) (M : sm_M) (r : sm_O × sm_M), kb27 x1 x2 x3 x4 M = some r → sm_J (md_X11_exchange, 7, sk, r.1, r.2) 27 [some (.ref 0), some (.int x1), some (.int x2), some (.int x3), some (.int x4), none] [] M) : ∀ (x1 : Int32) (x2 : Int32) (x3 : Int32) (x4 : Int32) (M : sm_M) (r : sm_O × sm_M), f_X11_exchange_87 F kb27 x1 x2 x3 x4 M = some r → sm_J (md_X11_exchange, 7, sk, r.1, r.2) 87 [some (.ref 0), some (.int x1), some (.int x2), some (.int x3), some (.int x4), none] [] M := by
  intro x1 x2 x3 x4  M r h
  unfold f_X11_exchange_87 at h
  refine sm_iinc (q := 90) (v := (x4 + 1)) (lt := [some (.ref 0), some (.int x1), some (.int x2), some (.int x3), some (.int (x4 + 1)), none]) d_X11_exchange_87 rfl rfl (ii_1 _) (Nat.le_of_ble_eq_true rfl) rfl rfl ?_
  refine sm_goto (t := 27) d_X11_exchange_90 rfl ?_
  exact hkb27 x1 x2 x3 (x4 + 1) M _ h
def f_X11_exchange_83 (F : Nat) (kb27 : Int32 → Int32 → Int32 → Int32 → sm_M → Option (sm_O × sm_M)) (x1 : Int32) (x2 : Int32) (x3 : Int32) (x4 : Int32) (y1 : Int32) (y2 : Int32) (M : sm_M) : Option (sm_O × sm_M) := sm_g (sm_ib y1 240) (f_X11_exchange_87 F kb27 x1 x2 (x3 + 1) x4 ((sm_mi M 25 y1.toNatClampNeg y2)))
set_option maxRecDepth 100000 in
set_option maxHeartbeats 4000000 in
theorem j_X11_exchange_83 {sk : List sm_Sh} (hx : sm_ext skX sk) (F : Nat) (kb27 : Int32 → Int32 → Int32 → Int32 → sm_M → Option (sm_O × sm_M)) (hkb27 : ∀ (x1 : Int32) (x2 : Int32) (x3 : Int32) (x4 : Int32) (M : sm_M) (r : sm_O × sm_M), kb27 x1 x2 x3 x4 M = some r → sm_J (md_X11_exchange, 7, sk, r.1, r.2) 27 [some (.ref 0), some (.int x1), some (.int x2), some (.int x3), some (.int x4), none] [] M) : ∀ (x1 : Int32) (x2 : Int32) (x3 : Int32) (x4 : Int32) (y1 : Int32) (y2 : Int32) (M : sm_M) (r : sm_O × sm_M), f_X11_exchange_83 F kb27 x1 x2 x3 x4 y1 y2 M = some r → sm_J (md_X11_exchange, 7, sk, r.1, r.2) 83 [some (.ref 0), some (.int x1), some (.int x2), some (.int x3), some (.int x4), none] [.int y2, .int y1, .ref 25] M := by
  intro x1 x2 x3 x4 y1 y2  M r h
  unfold f_X11_exchange_83 at h
  obtain ⟨g1, h⟩ := sm_gt h
  refine sm_iastore (q := 84) d_X11_exchange_83 rfl (hx sx_25) (sm_ib_of g1) ?_
  refine sm_iinc (q := 87) (v := (x3 + 1)) (lt := [some (.ref 0), some (.int x1), some (.int x2), some (.int (x3 + 1)), some (.int x4), none]) d_X11_exchange_84 rfl rfl (ii_1 _) (Nat.le_of_ble_eq_true rfl) rfl rfl ?_
  exact j_X11_exchange_87 hx F kb27 hkb27 x1 x2 (x3 + 1) x4 ((sm_mi M 25 y1.toNatClampNeg y2)) _ h
def f_X11_exchange_63 (F : Nat) (kb27 : Int32 → Int32 → Int32 → Int32 → sm_M → Option (sm_O × sm_M)) (x1 : Int32) (x2 : Int32) (x3 : Int32) (x4 : Int32) (x5 : Int32) (M : sm_M) : Option (sm_O × sm_M) := if x5 = x1 then (f_X11_exchange_83 F kb27 x1 x2 x3 x4 x4 x2 M) else (f_X11_exchange_83 F kb27 x1 x2 x3 x4 x4 x1 M)
set_option maxRecDepth 100000 in
set_option maxHeartbeats 4000000 in
theorem j_X11_exchange_63 {sk : List sm_Sh} (hx : sm_ext skX sk) (F : Nat) (kb27 : Int32 → Int32 → Int32 → Int32 → sm_M → Option (sm_O × sm_M)) (hkb27 : ∀ (x1 : Int32) (x2 : Int32) (x3 : Int32) (x4 : Int32) (M : sm_M) (r : sm_O × sm_M), kb27 x1 x2 x3 x4 M = some r → sm_J (md_X11_exchange, 7, sk, r.1, r.2) 27 [some (.ref 0), some (.int x1), some (.int x2), some (.int x3), some (.int x4), none] [] M) : ∀ (x1 : Int32) (x2 : Int32) (x3 : Int32) (x4 : Int32) (x5 : Int32) (M : sm_M) (r : sm_O × sm_M), f_X11_exchange_63 F kb27 x1 x2 x3 x4 x5 M = some r → sm_J (md_X11_exchange, 7, sk, r.1, r.2) 63 [some (.ref 0), some (.int x1), some (.int x2), some (.int x3), some (.int x4), some (.int x5)] [] M := by
  intro x1 x2 x3 x4 x5  M r h
  unfold f_X11_exchange_63 at h
  refine sm_aload_n (q := 64) d_X11_exchange_63 rfl rfl ?_
  refine sm_getr (q := 67) d_X11_exchange_64 rfl fl_X11_26 (hx sx_0) rfl ?_
  refine sm_getr (q := 70) d_X11_exchange_67 rfl fl_X11_146 (hx sx_24) rfl ?_
  refine sm_iload (q := 72) d_X11_exchange_70 rfl rfl ?_
  refine sm_iload (q := 74) d_X11_exchange_72 rfl rfl ?_
  refine sm_iload_n (q := 75) d_X11_exchange_74 rfl rfl ?_
  refine sm_icmp_ne (q := 78) (t := 82) d_X11_exchange_75 rfl rfl (fun c1 => ?_) (fun c1 => ?_)
  · replace h := sm_if c1 h
    refine sm_iload_n (q := 83) d_X11_exchange_82 rfl rfl ?_
    refine sm_fg [5] ?_
    exact j_X11_exchange_83 hx F kb27 hkb27 x1 x2 x3 x4 x4 x1 M _ h
  · replace h := sm_it c1 h
    refine sm_iload_n (q := 79) d_X11_exchange_78 rfl rfl ?_
    refine sm_goto (t := 83) d_X11_exchange_79 rfl ?_
    refine sm_fg [5] ?_
    exact j_X11_exchange_83 hx F kb27 hkb27 x1 x2 x3 x4 x4 x2 M _ h
def f_X11_exchange_27b (F : Nat) (kb27 : Int32 → Int32 → Int32 → Int32 → sm_M → Option (sm_O × sm_M)) (x1 : Int32) (x2 : Int32) (x3 : Int32) (x4 : Int32) (M : sm_M) : Option (sm_O × sm_M) := if (M.1 24 1) ≤ x4 then (some (.inl (some (.int x3)), M)) else (sm_g (sm_ib x4 240) (if (M.1 25 x4.toNatClampNeg) = x1 then (f_X11_exchange_63 F kb27 x1 x2 x3 x4 (M.1 25 x4.toNatClampNeg) M) else (if (M.1 25 x4.toNatClampNeg) = x2 then (f_X11_exchange_63 F kb27 x1 x2 x3 x4 (M.1 25 x4.toNatClampNeg) M) else (f_X11_exchange_87 F kb27 x1 x2 x3 x4 M))))
set_option maxRecDepth 100000 in
set_option maxHeartbeats 4000000 in
theorem j_X11_exchange_27b {sk : List sm_Sh} (hx : sm_ext skX sk) (F : Nat) (kb27 : Int32 → Int32 → Int32 → Int32 → sm_M → Option (sm_O × sm_M)) (hkb27 : ∀ (x1 : Int32) (x2 : Int32) (x3 : Int32) (x4 : Int32) (M : sm_M) (r : sm_O × sm_M), kb27 x1 x2 x3 x4 M = some r → sm_J (md_X11_exchange, 7, sk, r.1, r.2) 27 [some (.ref 0), some (.int x1), some (.int x2), some (.int x3), some (.int x4), none] [] M) : ∀ (x1 : Int32) (x2 : Int32) (x3 : Int32) (x4 : Int32) (M : sm_M) (r : sm_O × sm_M), f_X11_exchange_27b F kb27 x1 x2 x3 x4 M = some r → sm_J (md_X11_exchange, 7, sk, r.1, r.2) 27 [some (.ref 0), some (.int x1), some (.int x2), some (.int x3), some (.int x4), none] [] M := by
  intro x1 x2 x3 x4  M r h
  unfold f_X11_exchange_27b at h
  refine sm_iload (q := 29) d_X11_exchange_27 rfl rfl ?_
  refine sm_aload_n (q := 30) d_X11_exchange_29 rfl rfl ?_
  refine sm_getr (q := 33) d_X11_exchange_30 rfl fl_X11_26 (hx sx_0) rfl ?_
  refine sm_geti (q := 36) d_X11_exchange_33 rfl fl_X11_130 (hx sx_24) rfl ?_
  refine sm_icmp_ge (q := 39) (t := 93) d_X11_exchange_36 rfl rfl (fun c1 => ?_) (fun c1 => ?_)
  · replace h := sm_it c1 h
    refine sm_iload_n (q := 94) d_X11_exchange_93 rfl rfl ?_
    obtain rfl := Option.some.inj h
    exact sm_iret d_X11_exchange_94 rfl rfl rfl rfl
  · replace h := sm_if c1 h
    refine sm_aload_n (q := 40) d_X11_exchange_39 rfl rfl ?_
    refine sm_getr (q := 43) d_X11_exchange_40 rfl fl_X11_26 (hx sx_0) rfl ?_
    refine sm_getr (q := 46) d_X11_exchange_43 rfl fl_X11_146 (hx sx_24) rfl ?_
    refine sm_iload (q := 48) d_X11_exchange_46 rfl rfl ?_
    obtain ⟨g2, h⟩ := sm_gt h
    refine sm_iaload (q := 49) d_X11_exchange_48 rfl (hx sx_25) (sm_ib_of g2) ?_
    refine sm_istore (q := 51) (lt := [some (.ref 0), some (.int x1), some (.int x2), some (.int x3), some (.int x4), some (.int (M.1 25 x4.toNatClampNeg))]) d_X11_exchange_49 rfl (Nat.le_of_ble_eq_true rfl) rfl rfl ?_
    refine sm_iload (q := 53) d_X11_exchange_51 rfl rfl ?_
    refine sm_iload_n (q := 54) d_X11_exchange_53 rfl rfl ?_
    refine sm_icmp_eq (q := 57) (t := 63) d_X11_exchange_54 rfl rfl (fun c3 => ?_) (fun c3 => ?_)
    · replace h := sm_it c3 h
      exact j_X11_exchange_63 hx F kb27 hkb27 x1 x2 x3 x4 (M.1 25 x4.toNatClampNeg) M _ h
    · replace h := sm_if c3 h
      refine sm_iload (q := 59) d_X11_exchange_57 rfl rfl ?_
      refine sm_iload_n (q := 60) d_X11_exchange_59 rfl rfl ?_
      refine sm_icmp_ne (q := 63) (t := 87) d_X11_exchange_60 rfl rfl (fun c4 => ?_) (fun c4 => ?_)
      · replace h := sm_if c4 h
        refine sm_fg [5] ?_
        exact j_X11_exchange_87 hx F kb27 hkb27 x1 x2 x3 x4 M _ h
      · replace h := sm_it c4 h
        exact j_X11_exchange_63 hx F kb27 hkb27 x1 x2 x3 x4 (M.1 25 x4.toNatClampNeg) M _ h
def f_X11_exchange_27 (F : Nat) (n : Nat) : Int32 → Int32 → Int32 → Int32 → sm_M → Option (sm_O × sm_M) := match n with
 | 0 => fun _ _ _ _ _ => none
 | n + 1 => f_X11_exchange_27b F (f_X11_exchange_27 F n)
theorem j_X11_exchange_27 {sk : List sm_Sh} (hx : sm_ext skX sk) (F : Nat) : ∀ (n : Nat) (x1 : Int32) (x2 : Int32) (x3 : Int32) (x4 : Int32) (M : sm_M) (r : sm_O × sm_M), f_X11_exchange_27 F n x1 x2 x3 x4 M = some r → sm_J (md_X11_exchange, 7, sk, r.1, r.2) 27 [some (.ref 0), some (.int x1), some (.int x2), some (.int x3), some (.int x4), none] [] M := by
  intro n
  induction n with
  | zero => intro x1 x2 x3 x4  M r h; exact nomatch (show (none : Option (sm_O × sm_M)) = some r from h)
  | succ n ih => exact j_X11_exchange_27b hx F (f_X11_exchange_27 F n) ih
def f_X11_exchange (F : Nat) (x1 : Int32) (x2 : Int32) (M : sm_M) : Option (sm_O × sm_M) := sm_bx (f_X11_needSymbol F x1 M) (fun M2 => sm_bx (f_X11_needSymbol F x2 M2) (fun M5 => (f_X6_remember F 24 M5).bind fun q7 => f_X11_exchange_27 F F x1 x2 (0 : Int32) (0 : Int32) q7.2))
set_option maxRecDepth 100000 in
set_option maxHeartbeats 4000000 in
theorem j_X11_exchange {sk : List sm_Sh} (hx : sm_ext skX sk) (F : Nat) : ∀ (x1 : Int32) (x2 : Int32) (M : sm_M) (r : sm_O × sm_M), f_X11_exchange F x1 x2 M = some r → sm_J (md_X11_exchange, 7, sk, r.1, r.2) 0 [some (.ref 0), some (.int x1), some (.int x2), none, none, none] [] M := by
  intro x1 x2  M r h
  unfold f_X11_exchange at h
  refine sm_aload_n (q := 1) d_X11_exchange_0 rfl rfl ?_
  refine sm_iload_n (q := 2) d_X11_exchange_1 rfl rfl ?_
  rcases sm_bxs h with ⟨v3, M2, e1, h⟩ | ⟨v3, M2, e1, rfl⟩
  · obtain rfl := n_X11_needSymbol e1
    refine sm_callV (q := 5) (d' := 6) [] [.int x1] d_X11_exchange_2 rfl lk_X11_127 (hx sx_0) rfl rfl rfl (Nat.le_of_ble_eq_true rfl) (Nat.le_of_ble_eq_true rfl) (c_X11_needSymbol hx F x1 M (.inl none, M2) e1) (st9 := []) rfl ?_
    refine sm_aload_n (q := 6) d_X11_exchange_5 rfl rfl ?_
    refine sm_iload_n (q := 7) d_X11_exchange_6 rfl rfl ?_
    rcases sm_bxs h with ⟨v6, M5, e4, h⟩ | ⟨v6, M5, e4, rfl⟩
    · obtain rfl := n_X11_needSymbol e4
      refine sm_callV (q := 10) (d' := 6) [] [.int x2] d_X11_exchange_7 rfl lk_X11_127 (hx sx_0) rfl rfl rfl (Nat.le_of_ble_eq_true rfl) (Nat.le_of_ble_eq_true rfl) (c_X11_needSymbol hx F x2 M2 (.inl none, M5) e4) (st9 := []) rfl ?_
      refine sm_aload_n (q := 11) d_X11_exchange_10 rfl rfl ?_
      refine sm_getr (q := 14) d_X11_exchange_11 rfl fl_X11_33 (hx sx_0) rfl ?_
      refine sm_aload_n (q := 15) d_X11_exchange_14 rfl rfl ?_
      refine sm_getr (q := 18) d_X11_exchange_15 rfl fl_X11_26 (hx sx_0) rfl ?_
      obtain ⟨q7, e7, h⟩ := sm_bd h
      refine sm_callV (q := 21) (d' := 2) [] [.ref 24] d_X11_exchange_18 rfl lk_X11_136 (hx sx_26) rfl rfl rfl (Nat.le_of_ble_eq_true rfl) (Nat.le_of_ble_eq_true rfl) (c_X6_remember hx F 24 ⟨hx sx_24, hx sx_25⟩ M5 _ e7) (st9 := [.ref q7.1]) rfl ?_
      refine sm_pop (q := 22) d_X11_exchange_21 rfl rfl ?_
      refine sm_iconst (q := 23) d_X11_exchange_22 rfl ci_0 ?_
      refine sm_istore_n (q := 24) (lt := [some (.ref 0), some (.int x1), some (.int x2), some (.int (0 : Int32)), none, none]) d_X11_exchange_23 rfl (Nat.le_of_ble_eq_true rfl) rfl rfl ?_
      refine sm_iconst (q := 25) d_X11_exchange_24 rfl ci_0 ?_
      refine sm_istore (q := 27) (lt := [some (.ref 0), some (.int x1), some (.int x2), some (.int (0 : Int32)), some (.int (0 : Int32)), none]) d_X11_exchange_25 rfl (Nat.le_of_ble_eq_true rfl) rfl rfl ?_
      exact j_X11_exchange_27 hx F F x1 x2 (0 : Int32) (0 : Int32) q7.2 _ h
    · exact sm_callVX (d' := 6) [] [.int x2] d_X11_exchange_7 lk_X11_127 (hx sx_0) rfl rfl rfl (Nat.le_of_ble_eq_true rfl) (Nat.le_of_ble_eq_true rfl) (c_X11_needSymbol hx F x2 M2 (.inr v6, M5) e4) rfl rfl
  · exact sm_callVX (d' := 6) [] [.int x1] d_X11_exchange_2 lk_X11_127 (hx sx_0) rfl rfl rfl (Nat.le_of_ble_eq_true rfl) (Nat.le_of_ble_eq_true rfl) (c_X11_needSymbol hx F x1 M (.inr v3, M2) e1) rfl rfl
theorem c_X11_exchange {sk : List sm_Sh} (hx : sm_ext skX sk) (F : Nat) (x1 : Int32) (x2 : Int32) (M : sm_M) (r : sm_O × sm_M) (h : f_X11_exchange F x1 x2 M = some r) : sm_Ct yX11_exchange md_X11_exchange 7 sk [.ref 0, .int x1, .int x2] M (r.1) r.2 := sm_enter 3 pn_X11 rfl (Nat.le_of_ble_eq_true rfl) rfl (j_X11_exchange hx F x1 x2 M r h)
/-! UniversalCycles.extendGreedily()I -/
theorem d_X11_extendGreedily_0 : decode cX11_extendGreedily 0 = .ok (.aload_n 0, 1) := by decide +kernel
theorem d_X11_extendGreedily_1 : decode cX11_extendGreedily 1 = .ok (.getfield 33, 3) := by decide +kernel
theorem d_X11_extendGreedily_4 : decode cX11_extendGreedily 4 = .ok (.aload_n 0, 1) := by decide +kernel
theorem d_X11_extendGreedily_5 : decode cX11_extendGreedily 5 = .ok (.getfield 26, 3) := by decide +kernel
theorem d_X11_extendGreedily_8 : decode cX11_extendGreedily 8 = .ok (.invokevirtual 136, 3) := by decide +kernel
theorem d_X11_extendGreedily_11 : decode cX11_extendGreedily 11 = .ok (.astore_n 1, 1) := by decide +kernel
theorem d_X11_extendGreedily_12 : decode cX11_extendGreedily 12 = .ok (.aload_n 0, 1) := by decide +kernel
theorem d_X11_extendGreedily_13 : decode cX11_extendGreedily 13 = .ok (.getfield 54, 3) := by decide +kernel
theorem d_X11_extendGreedily_16 : decode cX11_extendGreedily 16 = .ok (.aload_n 0, 1) := by decide +kernel
theorem d_X11_extendGreedily_17 : decode cX11_extendGreedily 17 = .ok (.getfield 10, 3) := by decide +kernel
theorem d_X11_extendGreedily_20 : decode cX11_extendGreedily 20 = .ok (.aload_n 0, 1) := by decide +kernel
theorem d_X11_extendGreedily_21 : decode cX11_extendGreedily 21 = .ok (.getfield 26, 3) := by decide +kernel
theorem d_X11_extendGreedily_24 : decode cX11_extendGreedily 24 = .ok (.invokevirtual 232, 3) := by decide +kernel
theorem d_X11_extendGreedily_27 : decode cX11_extendGreedily 27 = .ok (.aload_n 0, 1) := by decide +kernel
theorem d_X11_extendGreedily_28 : decode cX11_extendGreedily 28 = .ok (.getfield 26, 3) := by decide +kernel
theorem d_X11_extendGreedily_31 : decode cX11_extendGreedily 31 = .ok (.getfield 130, 3) := by decide +kernel
theorem d_X11_extendGreedily_34 : decode cX11_extendGreedily 34 = .ok (.aload_n 1, 1) := by decide +kernel
theorem d_X11_extendGreedily_35 : decode cX11_extendGreedily 35 = .ok (.getfield 130, 3) := by decide +kernel
theorem d_X11_extendGreedily_38 : decode cX11_extendGreedily 38 = .ok (.isub, 1) := by decide +kernel
theorem d_X11_extendGreedily_39 : decode cX11_extendGreedily 39 = .ok (.ireturn, 1) := by decide +kernel
def f_X11_extendGreedily (F : Nat) (M : sm_M) : Option (Int32 × sm_M) := (f_X6_remember F 24 M).bind fun q1 => (f_X5_extend F 24 q1.2).bind fun q2 => some (((q2.1 24 1) - (q2.1 q1.1 1)), q2)
set_option maxRecDepth 100000 in
set_option maxHeartbeats 4000000 in
theorem j_X11_extendGreedily {sk : List sm_Sh} (hx : sm_ext skX sk) (F : Nat) : ∀ (M : sm_M) (r : Int32 × sm_M), f_X11_extendGreedily F M = some r → sm_J (md_X11_extendGreedily, 5, sk, .inl (some (.int r.1)), r.2) 0 [some (.ref 0), none] [] M := by
  intro   M r h
  unfold f_X11_extendGreedily at h
  refine sm_aload_n (q := 1) d_X11_extendGreedily_0 rfl rfl ?_
  refine sm_getr (q := 4) d_X11_extendGreedily_1 rfl fl_X11_33 (hx sx_0) rfl ?_
  refine sm_aload_n (q := 5) d_X11_extendGreedily_4 rfl rfl ?_
  refine sm_getr (q := 8) d_X11_extendGreedily_5 rfl fl_X11_26 (hx sx_0) rfl ?_
  obtain ⟨q1, e1, h⟩ := sm_bd h
  refine sm_callV (q := 11) (d' := 2) [] [.ref 24] d_X11_extendGreedily_8 rfl lk_X11_136 (hx sx_26) rfl rfl rfl (Nat.le_of_ble_eq_true rfl) (Nat.le_of_ble_eq_true rfl) (c_X6_remember hx F 24 ⟨hx sx_24, hx sx_25⟩ M _ e1) (st9 := [.ref q1.1]) rfl ?_
  refine sm_astore_n (q := 12) (lt := [some (.ref 0), some (.ref q1.1)]) d_X11_extendGreedily_11 rfl (Nat.le_of_ble_eq_true rfl) rfl rfl ?_
  refine sm_aload_n (q := 13) d_X11_extendGreedily_12 rfl rfl ?_
  refine sm_getr (q := 16) d_X11_extendGreedily_13 rfl fl_X11_54 (hx sx_0) rfl ?_
  refine sm_aload_n (q := 17) d_X11_extendGreedily_16 rfl rfl ?_
  refine sm_getr (q := 20) d_X11_extendGreedily_17 rfl fl_X11_10 (hx sx_0) rfl ?_
  refine sm_aload_n (q := 21) d_X11_extendGreedily_20 rfl rfl ?_
  refine sm_getr (q := 24) d_X11_extendGreedily_21 rfl fl_X11_26 (hx sx_0) rfl ?_
  obtain ⟨q2, e2, h⟩ := sm_bd h
  refine sm_callV (q := 27) (d' := 4) [] [.ref 1, .ref 24] d_X11_extendGreedily_24 rfl lk_X11_232 (hx sx_62) rfl rfl rfl (Nat.le_of_ble_eq_true rfl) (Nat.le_of_ble_eq_true rfl) (c_X5_extend hx F 24 ⟨hx sx_24, hx sx_25⟩ q1.2 _ e2) (st9 := []) rfl ?_
  refine sm_aload_n (q := 28) d_X11_extendGreedily_27 rfl rfl ?_
  refine sm_getr (q := 31) d_X11_extendGreedily_28 rfl fl_X11_26 (hx sx_0) rfl ?_
  refine sm_geti (q := 34) d_X11_extendGreedily_31 rfl fl_X11_130 (hx sx_24) rfl ?_
  refine sm_aload_n (q := 35) d_X11_extendGreedily_34 rfl rfl ?_
  refine sm_geti (q := 38) d_X11_extendGreedily_35 rfl fl_X11_130 (rw_X6_remember hx e1).1 rfl ?_
  refine sm_isub (q := 39) d_X11_extendGreedily_38 rfl ?_
  obtain rfl := Option.some.inj h
  exact sm_iret d_X11_extendGreedily_39 rfl rfl rfl rfl
theorem c_X11_extendGreedily {sk : List sm_Sh} (hx : sm_ext skX sk) (F : Nat) (M : sm_M) (r : Int32 × sm_M) (h : f_X11_extendGreedily F M = some r) : sm_Ct yX11_extendGreedily md_X11_extendGreedily 5 sk [.ref 0] M (.inl (some (.int r.1))) r.2 := sm_enter 1 pn_X11 rfl (Nat.le_of_ble_eq_true rfl) rfl (j_X11_extendGreedily hx F M r h)
/-! UniversalCycles.search(I)I -/
theorem d_X11_search_0 : decode cX11_search 0 = .ok (.iload_n 1, 1) := by decide +kernel
theorem d_X11_search_1 : decode cX11_search 1 = .ok (.iconst 1, 1) := by decide +kernel
theorem d_X11_search_2 : decode cX11_search 2 = .ok (.if_icmp .lt 10, 3) := by decide +kernel
theorem d_X11_search_5 : decode cX11_search 5 = .ok (.iload_n 1, 1) := by decide +kernel
theorem d_X11_search_6 : decode cX11_search 6 = .ok (.sipush 30000, 3) := by decide +kernel
theorem d_X11_search_9 : decode cX11_search 9 = .ok (.if_icmp .le 13, 3) := by decide +kernel
theorem d_X11_search_12 : decode cX11_search 12 = .ok (.new 90, 3) := by decide +kernel
theorem d_X11_search_15 : decode cX11_search 15 = .ok (.dup, 1) := by decide +kernel
theorem d_X11_search_16 : decode cX11_search 16 = .ok (.ldc 235, 2) := by decide +kernel
theorem d_X11_search_18 : decode cX11_search 18 = .ok (.invokespecial 94, 3) := by decide +kernel
theorem d_X11_search_21 : decode cX11_search 21 = .ok (.athrow, 1) := by decide +kernel
theorem d_X11_search_22 : decode cX11_search 22 = .ok (.aload_n 0, 1) := by decide +kernel
theorem d_X11_search_23 : decode cX11_search 23 = .ok (.getfield 47, 3) := by decide +kernel
theorem d_X11_search_26 : decode cX11_search 26 = .ok (.aload_n 0, 1) := by decide +kernel
theorem d_X11_search_27 : decode cX11_search 27 = .ok (.getfield 10, 3) := by decide +kernel
theorem d_X11_search_30 : decode cX11_search 30 = .ok (.iload_n 1, 1) := by decide +kernel
theorem d_X11_search_31 : decode cX11_search 31 = .ok (.invokevirtual 237, 3) := by decide +kernel
theorem d_X11_search_34 : decode cX11_search 34 = .ok (.istore_n 2, 1) := by decide +kernel
theorem d_X11_search_35 : decode cX11_search 35 = .ok (.iload_n 2, 1) := by decide +kernel
theorem d_X11_search_36 : decode cX11_search 36 = .ok (.iconst (-1), 1) := by decide +kernel
theorem d_X11_search_37 : decode cX11_search 37 = .ok (.if_icmp .ne 13, 3) := by decide +kernel
theorem d_X11_search_40 : decode cX11_search 40 = .ok (.new 131, 3) := by decide +kernel
theorem d_X11_search_43 : decode cX11_search 43 = .ok (.dup, 1) := by decide +kernel
theorem d_X11_search_44 : decode cX11_search 44 = .ok (.ldc 241, 2) := by decide +kernel
theorem d_X11_search_46 : decode cX11_search 46 = .ok (.invokespecial 135, 3) := by decide +kernel
theorem d_X11_search_49 : decode cX11_search 49 = .ok (.athrow, 1) := by decide +kernel
theorem d_X11_search_50 : decode cX11_search 50 = .ok (.iload_n 2, 1) := by decide +kernel
theorem d_X11_search_51 : decode cX11_search 51 = .ok (.bipush (-2), 2) := by decide +kernel
theorem d_X11_search_53 : decode cX11_search 53 = .ok (.if_icmp .ne 13, 3) := by decide +kernel
theorem d_X11_search_56 : decode cX11_search 56 = .ok (.new 150, 3) := by decide +kernel
theorem d_X11_search_59 : decode cX11_search 59 = .ok (.dup, 1) := by decide +kernel
theorem d_X11_search_60 : decode cX11_search 60 = .ok (.ldc 243, 2) := by decide +kernel
theorem d_X11_search_62 : decode cX11_search 62 = .ok (.invokespecial 154, 3) := by decide +kernel
theorem d_X11_search_65 : decode cX11_search 65 = .ok (.athrow, 1) := by decide +kernel
theorem d_X11_search_66 : decode cX11_search 66 = .ok (.aload_n 0, 1) := by decide +kernel
theorem d_X11_search_67 : decode cX11_search 67 = .ok (.getfield 33, 3) := by decide +kernel
theorem d_X11_search_70 : decode cX11_search 70 = .ok (.aload_n 0, 1) := by decide +kernel
theorem d_X11_search_71 : decode cX11_search 71 = .ok (.getfield 26, 3) := by decide +kernel
theorem d_X11_search_74 : decode cX11_search 74 = .ok (.invokevirtual 136, 3) := by decide +kernel
theorem d_X11_search_77 : decode cX11_search 77 = .ok (.pop, 1) := by decide +kernel
theorem d_X11_search_78 : decode cX11_search 78 = .ok (.aload_n 0, 1) := by decide +kernel
theorem d_X11_search_79 : decode cX11_search 79 = .ok (.getfield 26, 3) := by decide +kernel
theorem d_X11_search_82 : decode cX11_search 82 = .ok (.aload_n 0, 1) := by decide +kernel
theorem d_X11_search_83 : decode cX11_search 83 = .ok (.getfield 47, 3) := by decide +kernel
theorem d_X11_search_86 : decode cX11_search 86 = .ok (.getfield 245, 3) := by decide +kernel
theorem d_X11_search_89 : decode cX11_search 89 = .ok (.invokevirtual 248, 3) := by decide +kernel
theorem d_X11_search_92 : decode cX11_search 92 = .ok (.iload_n 2, 1) := by decide +kernel
theorem d_X11_search_93 : decode cX11_search 93 = .ok (.ireturn, 1) := by decide +kernel
def f_X11_search_12 (F : Nat) (M : sm_M) : Option (sm_O × sm_M) := some (.inr "java/lang/IllegalArgumentException", M)
set_option maxRecDepth 100000 in
set_option maxHeartbeats 4000000 in
theorem j_X11_search_12 {sk : List sm_Sh} (hx : sm_ext skX sk) (F : Nat) : ∀ (M : sm_M) (r : sm_O × sm_M), f_X11_search_12 F M = some r → sm_J (md_X11_search, 6, sk, r.1, r.2) 12 [none, none, none] [] M := by
  intro   M r h
  unfold f_X11_search_12 at h
  obtain rfl := Option.some.inj h
  exact sm_throw lt_X11_90_235_94 d_X11_search_12 d_X11_search_15 d_X11_search_16 d_X11_search_18 d_X11_search_21 (Nat.le_of_ble_eq_true rfl) (Nat.le_of_ble_eq_true rfl) rfl rfl
def f_X11_search (F : Nat) (x1 : Int32) (M : sm_M) : Option (sm_O × sm_M) := if x1 < (1 : Int32) then (f_X11_search_12 F M) else (if x1 ≤ (30000 : Int32) then ((f_X8_run F x1 M).bind fun q3 => if q3.1 = (-1 : Int32) then (some (.inr "java/lang/IllegalStateException", q3.2)) else (if q3.1 = (-2 : Int32) then (some (.inr "java/util/NoSuchElementException", q3.2)) else ((f_X6_remember F 24 q3.2).bind fun q6 => (f_X7_copyFrom F 24 58 q6.2).bind fun q7 => some (.inl (some (.int q3.1)), q7)))) else (f_X11_search_12 F M))
set_option maxRecDepth 100000 in
set_option maxHeartbeats 4000000 in
theorem j_X11_search {sk : List sm_Sh} (hx : sm_ext skX sk) (F : Nat) : ∀ (x1 : Int32) (M : sm_M) (r : sm_O × sm_M), f_X11_search F x1 M = some r → sm_J (md_X11_search, 6, sk, r.1, r.2) 0 [some (.ref 0), some (.int x1), none] [] M := by
  intro x1  M r h
  unfold f_X11_search at h
  refine sm_iload_n (q := 1) d_X11_search_0 rfl rfl ?_
  refine sm_iconst (q := 2) d_X11_search_1 rfl ci_1 ?_
  refine sm_icmp_lt (q := 5) (t := 12) d_X11_search_2 rfl rfl (fun c1 => ?_) (fun c1 => ?_)
  · replace h := sm_it c1 h
    refine sm_fg [0, 1] ?_
    exact j_X11_search_12 hx F M _ h
  · replace h := sm_if c1 h
    refine sm_iload_n (q := 6) d_X11_search_5 rfl rfl ?_
    refine sm_sipush (q := 9) d_X11_search_6 rfl cs_30000 ?_
    refine sm_icmp_le (q := 12) (t := 22) d_X11_search_9 rfl rfl (fun c2 => ?_) (fun c2 => ?_)
    · replace h := sm_it c2 h
      refine sm_aload_n (q := 23) d_X11_search_22 rfl rfl ?_
      refine sm_getr (q := 26) d_X11_search_23 rfl fl_X11_47 (hx sx_0) rfl ?_
      refine sm_aload_n (q := 27) d_X11_search_26 rfl rfl ?_
      refine sm_getr (q := 30) d_X11_search_27 rfl fl_X11_10 (hx sx_0) rfl ?_
      refine sm_iload_n (q := 31) d_X11_search_30 rfl rfl ?_
      obtain ⟨q3, e3, h⟩ := sm_bd h
      refine sm_callV (q := 34) (d' := 4) [] [.ref 1, .int x1] d_X11_search_31 rfl lk_X11_237 (hx sx_57) rfl rfl rfl (Nat.le_of_ble_eq_true rfl) (Nat.le_of_ble_eq_true rfl) (c_X8_run hx F x1 M _ e3) (st9 := [.int q3.1]) rfl ?_
      refine sm_istore_n (q := 35) (lt := [some (.ref 0), some (.int x1), some (.int q3.1)]) d_X11_search_34 rfl (Nat.le_of_ble_eq_true rfl) rfl rfl ?_
      refine sm_iload_n (q := 36) d_X11_search_35 rfl rfl ?_
      refine sm_iconst (q := 37) d_X11_search_36 rfl ci_m1 ?_
      refine sm_icmp_ne (q := 40) (t := 50) d_X11_search_37 rfl rfl (fun c4 => ?_) (fun c4 => ?_)
      · replace h := sm_if c4 h
        refine sm_iload_n (q := 51) d_X11_search_50 rfl rfl ?_
        refine sm_bipush (q := 53) d_X11_search_51 rfl cb_m2 ?_
        refine sm_icmp_ne (q := 56) (t := 66) d_X11_search_53 rfl rfl (fun c5 => ?_) (fun c5 => ?_)
        · replace h := sm_if c5 h
          refine sm_aload_n (q := 67) d_X11_search_66 rfl rfl ?_
          refine sm_getr (q := 70) d_X11_search_67 rfl fl_X11_33 (hx sx_0) rfl ?_
          refine sm_aload_n (q := 71) d_X11_search_70 rfl rfl ?_
          refine sm_getr (q := 74) d_X11_search_71 rfl fl_X11_26 (hx sx_0) rfl ?_
          obtain ⟨q6, e6, h⟩ := sm_bd h
          refine sm_callV (q := 77) (d' := 2) [] [.ref 24] d_X11_search_74 rfl lk_X11_136 (hx sx_26) rfl rfl rfl (Nat.le_of_ble_eq_true rfl) (Nat.le_of_ble_eq_true rfl) (c_X6_remember hx F 24 ⟨hx sx_24, hx sx_25⟩ q3.2 _ e6) (st9 := [.ref q6.1]) rfl ?_
          refine sm_pop (q := 78) d_X11_search_77 rfl rfl ?_
          refine sm_aload_n (q := 79) d_X11_search_78 rfl rfl ?_
          refine sm_getr (q := 82) d_X11_search_79 rfl fl_X11_26 (hx sx_0) rfl ?_
          refine sm_aload_n (q := 83) d_X11_search_82 rfl rfl ?_
          refine sm_getr (q := 86) d_X11_search_83 rfl fl_X11_47 (hx sx_0) rfl ?_
          refine sm_getr (q := 89) d_X11_search_86 rfl fl_X11_245 (hx sx_57) rfl ?_
          obtain ⟨q7, e7, h⟩ := sm_bd h
          refine sm_callV (q := 92) (d' := 1) [] [.ref 58] d_X11_search_89 rfl lk_X11_248 (hx sx_24) rfl rfl rfl (Nat.le_of_ble_eq_true rfl) (Nat.le_of_ble_eq_true rfl) (c_X7_copyFrom hx F 24 58 ⟨hx sx_24, hx sx_25⟩ ⟨hx sx_58, hx sx_59⟩ q6.2 _ e7) (st9 := []) rfl ?_
          refine sm_iload_n (q := 93) d_X11_search_92 rfl rfl ?_
          obtain rfl := Option.some.inj h
          exact sm_iret d_X11_search_93 rfl rfl rfl rfl
        · replace h := sm_it c5 h
          obtain rfl := Option.some.inj h
          exact sm_throwN rfl lt_X11_150_243_154 d_X11_search_56 d_X11_search_59 d_X11_search_60 d_X11_search_62 d_X11_search_65 (Nat.le_of_ble_eq_true rfl) (Nat.le_of_ble_eq_true rfl) rfl rfl
      · replace h := sm_it c4 h
        obtain rfl := Option.some.inj h
        exact sm_throw lt_X11_131_241_135 d_X11_search_40 d_X11_search_43 d_X11_search_44 d_X11_search_46 d_X11_search_49 (Nat.le_of_ble_eq_true rfl) (Nat.le_of_ble_eq_true rfl) rfl rfl
    · replace h := sm_if c2 h
      refine sm_fg [0, 1] ?_
      exact j_X11_search_12 hx F M _ h
theorem c_X11_search {sk : List sm_Sh} (hx : sm_ext skX sk) (F : Nat) (x1 : Int32) (M : sm_M) (r : sm_O × sm_M) (h : f_X11_search F x1 M = some r) : sm_Ct yX11_search md_X11_search 6 sk [.ref 0, .int x1] M (r.1) r.2 := sm_enter 1 pn_X11 rfl (Nat.le_of_ble_eq_true rfl) rfl (j_X11_search hx F x1 M r h)
/-! UniversalCycles.needGraph()V -/
theorem d_X11_needGraph_0 : decode cX11_needGraph 0 = .ok (.aload_n 0, 1) := by decide +kernel
theorem d_X11_needGraph_1 : decode cX11_needGraph 1 = .ok (.getfield 10, 3) := by decide +kernel
theorem d_X11_needGraph_4 : decode cX11_needGraph 4 = .ok (.getfield 316, 3) := by decide +kernel
theorem d_X11_needGraph_7 : decode cX11_needGraph 7 = .ok (.iconst 3, 1) := by decide +kernel
theorem d_X11_needGraph_8 : decode cX11_needGraph 8 = .ok (.if_icmp .ne 14, 3) := by decide +kernel
theorem d_X11_needGraph_11 : decode cX11_needGraph 11 = .ok (.new 284, 3) := by decide +kernel
theorem d_X11_needGraph_14 : decode cX11_needGraph 14 = .ok (.dup, 1) := by decide +kernel
theorem d_X11_needGraph_15 : decode cX11_needGraph 15 = .ok (.ldc_w 354, 3) := by decide +kernel
theorem d_X11_needGraph_18 : decode cX11_needGraph 18 = .ok (.invokespecial 288, 3) := by decide +kernel
theorem d_X11_needGraph_21 : decode cX11_needGraph 21 = .ok (.athrow, 1) := by decide +kernel
theorem d_X11_needGraph_22 : decode cX11_needGraph 22 = .ok (.return_, 1) := by decide +kernel
def f_X11_needGraph (F : Nat) (M : sm_M) : Option (sm_O × sm_M) := if (M.1 1 1) = (3 : Int32) then (some (.inr "java/lang/UnsupportedOperationException", M)) else (some (.inl none, M))
set_option maxRecDepth 100000 in
set_option maxHeartbeats 4000000 in
theorem j_X11_needGraph {sk : List sm_Sh} (hx : sm_ext skX sk) (F : Nat) : ∀ (M : sm_M) (r : sm_O × sm_M), f_X11_needGraph F M = some r → sm_J (md_X11_needGraph, 6, sk, r.1, r.2) 0 [some (.ref 0)] [] M := by
  intro   M r h
  unfold f_X11_needGraph at h
  refine sm_aload_n (q := 1) d_X11_needGraph_0 rfl rfl ?_
  refine sm_getr (q := 4) d_X11_needGraph_1 rfl fl_X11_10 (hx sx_0) rfl ?_
  refine sm_geti (q := 7) d_X11_needGraph_4 rfl fl_X11_316 (hx sx_1) rfl ?_
  refine sm_iconst (q := 8) d_X11_needGraph_7 rfl ci_3 ?_
  refine sm_icmp_ne (q := 11) (t := 22) d_X11_needGraph_8 rfl rfl (fun c1 => ?_) (fun c1 => ?_)
  · replace h := sm_if c1 h
    obtain rfl := Option.some.inj h
    exact sm_vret d_X11_needGraph_22 rfl rfl rfl
  · replace h := sm_it c1 h
    obtain rfl := Option.some.inj h
    exact sm_throwW lt_X11_284_354_288 d_X11_needGraph_11 d_X11_needGraph_14 d_X11_needGraph_15 d_X11_needGraph_18 d_X11_needGraph_21 (Nat.le_of_ble_eq_true rfl) (Nat.le_of_ble_eq_true rfl) rfl rfl
theorem n_X11_needGraph {F : Nat} {M M1 : sm_M} {v : Option Value} (h : f_X11_needGraph F M = some (.inl v, M1)) : v = none := by
  exact (show sm_nv (f_X11_needGraph F  M) from by unfold f_X11_needGraph; exact sm_nv_if sm_nv_thr sm_nv_ret) _ _ h
theorem c_X11_needGraph {sk : List sm_Sh} (hx : sm_ext skX sk) (F : Nat) (M : sm_M) (r : sm_O × sm_M) (h : f_X11_needGraph F M = some r) : sm_Ct yX11_needGraph md_X11_needGraph 6 sk [.ref 0] M (r.1) r.2 := sm_enter 0 pn_X11 rfl (Nat.le_of_ble_eq_true rfl) rfl (j_X11_needGraph hx F M r h)
/-! UniversalCycles.vertexCount()I -/
theorem d_X11_vertexCount_0 : decode cX11_vertexCount 0 = .ok (.aload_n 0, 1) := by decide +kernel
theorem d_X11_vertexCount_1 : decode cX11_vertexCount 1 = .ok (.invokevirtual 251, 3) := by decide +kernel
theorem d_X11_vertexCount_4 : decode cX11_vertexCount 4 = .ok (.aload_n 0, 1) := by decide +kernel
theorem d_X11_vertexCount_5 : decode cX11_vertexCount 5 = .ok (.getfield 19, 3) := by decide +kernel
theorem d_X11_vertexCount_8 : decode cX11_vertexCount 8 = .ok (.getfield 254, 3) := by decide +kernel
theorem d_X11_vertexCount_11 : decode cX11_vertexCount 11 = .ok (.getfield 101, 3) := by decide +kernel
theorem d_X11_vertexCount_14 : decode cX11_vertexCount 14 = .ok (.ireturn, 1) := by decide +kernel
def f_X11_vertexCount (F : Nat) (M : sm_M) : Option (sm_O × sm_M) := sm_bx (f_X11_needGraph F M) (fun M2 => some (.inl (some (.int (M2.1 6 2))), M2))
set_option maxRecDepth 100000 in
set_option maxHeartbeats 4000000 in
theorem j_X11_vertexCount {sk : List sm_Sh} (hx : sm_ext skX sk) (F : Nat) : ∀ (M : sm_M) (r : sm_O × sm_M), f_X11_vertexCount F M = some r → sm_J (md_X11_vertexCount, 7, sk, r.1, r.2) 0 [some (.ref 0)] [] M := by
  intro   M r h
  unfold f_X11_vertexCount at h
  refine sm_aload_n (q := 1) d_X11_vertexCount_0 rfl rfl ?_
  rcases sm_bxs h with ⟨v3, M2, e1, h⟩ | ⟨v3, M2, e1, rfl⟩
  · obtain rfl := n_X11_needGraph e1
    refine sm_callV (q := 4) (d' := 6) [] [] d_X11_vertexCount_1 rfl lk_X11_251 (hx sx_0) rfl rfl rfl (Nat.le_of_ble_eq_true rfl) (Nat.le_of_ble_eq_true rfl) (c_X11_needGraph hx F M (.inl none, M2) e1) (st9 := []) rfl ?_
    refine sm_aload_n (q := 5) d_X11_vertexCount_4 rfl rfl ?_
    refine sm_getr (q := 8) d_X11_vertexCount_5 rfl fl_X11_19 (hx sx_0) rfl ?_
    refine sm_getr (q := 11) d_X11_vertexCount_8 rfl fl_X11_254 (hx sx_5) rfl ?_
    refine sm_geti (q := 14) d_X11_vertexCount_11 rfl fl_X11_101 (hx sx_6) rfl ?_
    obtain rfl := Option.some.inj h
    exact sm_iret d_X11_vertexCount_14 rfl rfl rfl rfl
  · exact sm_callVX (d' := 6) [] [] d_X11_vertexCount_1 lk_X11_251 (hx sx_0) rfl rfl rfl (Nat.le_of_ble_eq_true rfl) (Nat.le_of_ble_eq_true rfl) (c_X11_needGraph hx F M (.inr v3, M2) e1) rfl rfl
theorem c_X11_vertexCount {sk : List sm_Sh} (hx : sm_ext skX sk) (F : Nat) (M : sm_M) (r : sm_O × sm_M) (h : f_X11_vertexCount F M = some r) : sm_Ct yX11_vertexCount md_X11_vertexCount 7 sk [.ref 0] M (r.1) r.2 := sm_enter 0 pn_X11 rfl (Nat.le_of_ble_eq_true rfl) rfl (j_X11_vertexCount hx F M r h)
