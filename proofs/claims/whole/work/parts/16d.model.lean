/-! ===== methods, decompiled: 16d.model ===== -/
/-! UniversalCyclesModel.shownAt(I)I -/
theorem d_X12_shownAt_0 : decode cX12_shownAt 0 = .ok (.aload_n 0, 1) := by decide +kernel
theorem d_X12_shownAt_1 : decode cX12_shownAt 1 = .ok (.iconst 0, 1) := by decide +kernel
theorem d_X12_shownAt_2 : decode cX12_shownAt 2 = .ok (.putfield 1, 3) := by decide +kernel
theorem d_X12_shownAt_5 : decode cX12_shownAt 5 = .ok (.aload_n 0, 1) := by decide +kernel
theorem d_X12_shownAt_6 : decode cX12_shownAt 6 = .ok (.iload_n 1, 1) := by decide +kernel
theorem d_X12_shownAt_7 : decode cX12_shownAt 7 = .ok (.invokevirtual 141, 3) := by decide +kernel
theorem d_X12_shownAt_10 : decode cX12_shownAt 10 = .ok (.ifCond .eq 11, 3) := by decide +kernel
theorem d_X12_shownAt_13 : decode cX12_shownAt 13 = .ok (.aload_n 0, 1) := by decide +kernel
theorem d_X12_shownAt_14 : decode cX12_shownAt 14 = .ok (.iload_n 1, 1) := by decide +kernel
theorem d_X12_shownAt_15 : decode cX12_shownAt 15 = .ok (.invokevirtual 161, 3) := by decide +kernel
theorem d_X12_shownAt_18 : decode cX12_shownAt 18 = .ok (.goto 8, 3) := by decide +kernel
theorem d_X12_shownAt_21 : decode cX12_shownAt 21 = .ok (.aload_n 0, 1) := by decide +kernel
theorem d_X12_shownAt_22 : decode cX12_shownAt 22 = .ok (.iconst 1, 1) := by decide +kernel
theorem d_X12_shownAt_23 : decode cX12_shownAt 23 = .ok (.invokevirtual 122, 3) := by decide +kernel
theorem d_X12_shownAt_26 : decode cX12_shownAt 26 = .ok (.ireturn, 1) := by decide +kernel
def f_X12_shownAt_26 (F : Nat) (y0 : Int32) (M : sm_M) : Option (Int32 × sm_M) := some (y0, M)
set_option maxRecDepth 100000 in
set_option maxHeartbeats 4000000 in
theorem j_X12_shownAt_26 {sk : List sm_Sh} (hx : sm_ext skM sk) (F : Nat) : ∀ (y0 : Int32) (M : sm_M) (r : Int32 × sm_M), f_X12_shownAt_26 F y0 M = some r → sm_J (md_X12_shownAt, 3, sk, .inl (some (.int r.1)), r.2) 26 [none, none] [.int y0] M := by
  intro y0  M r h
  unfold f_X12_shownAt_26 at h
  obtain rfl := Option.some.inj h
  exact sm_iret d_X12_shownAt_26 rfl rfl rfl rfl
def f_X12_shownAt (F : Nat) (x1 : Int32) (M : sm_M) : Option (Int32 × sm_M) := (f_X12_isPosition F x1 (sm_mi M 80 0 (0 : Int32))).bind fun q1 => if q1 = 0 then ((f_X12_fail F (1 : Int32) (sm_mi M 80 0 (0 : Int32))).bind fun q3 => f_X12_shownAt_26 F q3.1 q3.2) else ((f_X12_shows F x1 (sm_mi M 80 0 (0 : Int32))).bind fun q4 => f_X12_shownAt_26 F q4.1 q4.2)
set_option maxRecDepth 100000 in
set_option maxHeartbeats 4000000 in
theorem j_X12_shownAt {sk : List sm_Sh} (hx : sm_ext skM sk) (F : Nat) : ∀ (x1 : Int32) (M : sm_M) (r : Int32 × sm_M), f_X12_shownAt F x1 M = some r → sm_J (md_X12_shownAt, 3, sk, .inl (some (.int r.1)), r.2) 0 [some (.ref 80), some (.int x1)] [] M := by
  intro x1  M r h
  unfold f_X12_shownAt at h
  refine sm_aload_n (q := 1) d_X12_shownAt_0 rfl rfl ?_
  refine sm_iconst (q := 2) d_X12_shownAt_1 rfl ci_0 ?_
  refine sm_puti (q := 5) d_X12_shownAt_2 rfl fw_X12_1 (hx sx_80) rfl rfl rfl ?_
  refine sm_aload_n (q := 6) d_X12_shownAt_5 rfl rfl ?_
  refine sm_iload_n (q := 7) d_X12_shownAt_6 rfl rfl ?_
  obtain ⟨q1, e1, h⟩ := sm_bd h
  refine sm_callV (q := 10) (d' := 1) [] [.int x1] d_X12_shownAt_7 rfl lk_X12_141 (hx sx_80) rfl rfl rfl (Nat.le_of_ble_eq_true rfl) (Nat.le_of_ble_eq_true rfl) (c_X12_isPosition hx F x1 (sm_mi M 80 0 (0 : Int32)) _ e1) (st9 := [.int q1]) rfl ?_
  refine sm_if_eq (q := 13) (t := 21) d_X12_shownAt_10 rfl rfl (fun c2 => ?_) (fun c2 => ?_)
  · replace h := sm_it c2 h
    refine sm_aload_n (q := 22) d_X12_shownAt_21 rfl rfl ?_
    refine sm_iconst (q := 23) d_X12_shownAt_22 rfl ci_1 ?_
    obtain ⟨q3, e3, h⟩ := sm_bd h
    refine sm_callV (q := 26) (d' := 0) [] [.int (1 : Int32)] d_X12_shownAt_23 rfl lk_X12_122 (hx sx_80) rfl rfl rfl (Nat.le_of_ble_eq_true rfl) (Nat.le_of_ble_eq_true rfl) (c_X12_fail hx F (1 : Int32) (sm_mi M 80 0 (0 : Int32)) _ e3) (st9 := [.int q3.1]) rfl ?_
    refine sm_fg [0, 1] ?_
    exact j_X12_shownAt_26 hx F q3.1 q3.2 _ h
  · replace h := sm_if c2 h
    refine sm_aload_n (q := 14) d_X12_shownAt_13 rfl rfl ?_
    refine sm_iload_n (q := 15) d_X12_shownAt_14 rfl rfl ?_
    obtain ⟨q4, e4, h⟩ := sm_bd h
    refine sm_callV (q := 18) (d' := 2) [] [.int x1] d_X12_shownAt_15 rfl lk_X12_161 (hx sx_80) rfl rfl rfl (Nat.le_of_ble_eq_true rfl) (Nat.le_of_ble_eq_true rfl) (c_X12_shows hx F x1 (sm_mi M 80 0 (0 : Int32)) _ e4) (st9 := [.int q4.1]) rfl ?_
    refine sm_goto (t := 26) d_X12_shownAt_18 rfl ?_
    refine sm_fg [0, 1] ?_
    exact j_X12_shownAt_26 hx F q4.1 q4.2 _ h
theorem c_X12_shownAt {sk : List sm_Sh} (hx : sm_ext skM sk) (F : Nat) (x1 : Int32) (M : sm_M) (r : Int32 × sm_M) (h : f_X12_shownAt F x1 M = some r) : sm_Ct yX12_shownAt md_X12_shownAt 3 sk [.ref 80, .int x1] M (.inl (some (.int r.1))) r.2 := sm_enter 0 pn_X12 rfl (Nat.le_of_ble_eq_true rfl) rfl (j_X12_shownAt hx F x1 M r h)
/-! UniversalCyclesModel.countOf(I)I -/
theorem d_X12_countOf__0 : decode cX12_countOf_ 0 = .ok (.iconst 0, 1) := by decide +kernel
theorem d_X12_countOf__1 : decode cX12_countOf_ 1 = .ok (.istore_n 2, 1) := by decide +kernel
theorem d_X12_countOf__2 : decode cX12_countOf_ 2 = .ok (.iconst 0, 1) := by decide +kernel
theorem d_X12_countOf__3 : decode cX12_countOf_ 3 = .ok (.istore_n 3, 1) := by decide +kernel
theorem d_X12_countOf__4 : decode cX12_countOf_ 4 = .ok (.iload_n 3, 1) := by decide +kernel
theorem d_X12_countOf__5 : decode cX12_countOf_ 5 = .ok (.aload_n 0, 1) := by decide +kernel
theorem d_X12_countOf__6 : decode cX12_countOf_ 6 = .ok (.getfield 125, 3) := by decide +kernel
theorem d_X12_countOf__9 : decode cX12_countOf_ 9 = .ok (.if_icmp .ge 26, 3) := by decide +kernel
theorem d_X12_countOf__12 : decode cX12_countOf_ 12 = .ok (.iload_n 2, 1) := by decide +kernel
theorem d_X12_countOf__13 : decode cX12_countOf_ 13 = .ok (.aload_n 0, 1) := by decide +kernel
theorem d_X12_countOf__14 : decode cX12_countOf_ 14 = .ok (.iload_n 3, 1) := by decide +kernel
theorem d_X12_countOf__15 : decode cX12_countOf_ 15 = .ok (.invokevirtual 161, 3) := by decide +kernel
theorem d_X12_countOf__18 : decode cX12_countOf_ 18 = .ok (.iload_n 1, 1) := by decide +kernel
theorem d_X12_countOf__19 : decode cX12_countOf_ 19 = .ok (.if_icmp .ne 7, 3) := by decide +kernel
theorem d_X12_countOf__22 : decode cX12_countOf_ 22 = .ok (.iconst 1, 1) := by decide +kernel
theorem d_X12_countOf__23 : decode cX12_countOf_ 23 = .ok (.goto 4, 3) := by decide +kernel
theorem d_X12_countOf__26 : decode cX12_countOf_ 26 = .ok (.iconst 0, 1) := by decide +kernel
theorem d_X12_countOf__27 : decode cX12_countOf_ 27 = .ok (.iadd, 1) := by decide +kernel
theorem d_X12_countOf__28 : decode cX12_countOf_ 28 = .ok (.istore_n 2, 1) := by decide +kernel
theorem d_X12_countOf__29 : decode cX12_countOf_ 29 = .ok (.iinc 3 1, 3) := by decide +kernel
theorem d_X12_countOf__32 : decode cX12_countOf_ 32 = .ok (.goto (-28), 3) := by decide +kernel
theorem d_X12_countOf__35 : decode cX12_countOf_ 35 = .ok (.iload_n 2, 1) := by decide +kernel
theorem d_X12_countOf__36 : decode cX12_countOf_ 36 = .ok (.ireturn, 1) := by decide +kernel
def f_X12_countOf__27 (F : Nat) (kb4 : Int32 → Int32 → Int32 → sm_M → Option (Int32 × sm_M)) (x1 : Int32) (x3 : Int32) (y0 : Int32) (y1 : Int32) (M : sm_M) : Option (Int32 × sm_M) := kb4 x1 (y0 + y1) (x3 + 1) M
set_option maxRecDepth 100000 in
set_option maxHeartbeats 4000000 in
theorem j_X12_countOf__27 {sk : List sm_Sh} (hx : sm_ext skM sk) (F : Nat) (kb4 : Int32 → Int32 → Int32 → sm_M → Option (Int32 × sm_M)) (hkb4 : ∀ (x1 : Int32) (x2 : Int32) (x3 : Int32) (M : sm_M) (r : Int32 × sm_M), kb4 x1 x2 x3 M = some r → sm_J (md_X12_countOf_, 3, sk, .inl (some (.int r.1)), r.2) 4 [some (.ref 80), some (.int x1), some (.int x2), some (.int x3)] [] M) : ∀ (x1 : Int32) (x3 : Int32) (y0 : Int32) (y1 : Int32) (M : sm_M) (r : Int32 × sm_M), f_X12_countOf__27 F kb4 x1 x3 y0 y1 M = some r → sm_J (md_X12_countOf_, 3, sk, .inl (some (.int r.1)), r.2) 27 [some (.ref 80), some (.int x1), none, some (.int x3)] [.int y1, .int y0] M := by
  intro x1 x3 y0 y1  M r h
  unfold f_X12_countOf__27 at h
  refine sm_iadd (q := 28) d_X12_countOf__27 rfl ?_
  refine sm_istore_n (q := 29) (lt := [some (.ref 80), some (.int x1), some (.int (y0 + y1)), some (.int x3)]) d_X12_countOf__28 rfl (Nat.le_of_ble_eq_true rfl) rfl rfl ?_
  refine sm_iinc (q := 32) (v := (x3 + 1)) (lt := [some (.ref 80), some (.int x1), some (.int (y0 + y1)), some (.int (x3 + 1))]) d_X12_countOf__29 rfl rfl (ii_1 _) (Nat.le_of_ble_eq_true rfl) rfl rfl ?_
  refine sm_goto (t := 4) d_X12_countOf__32 rfl ?_
  exact hkb4 x1 (y0 + y1) (x3 + 1) M _ h
def f_X12_countOf__4b (F : Nat) (kb4 : Int32 → Int32 → Int32 → sm_M → Option (Int32 × sm_M)) (x1 : Int32) (x2 : Int32) (x3 : Int32) (M : sm_M) : Option (Int32 × sm_M) := if (M.1 80 12) ≤ x3 then (some (x2, M)) else ((f_X12_shows F x3 M).bind fun q2 => if q2.1 = x1 then (f_X12_countOf__27 F kb4 x1 x3 x2 (1 : Int32) q2.2) else (f_X12_countOf__27 F kb4 x1 x3 x2 (0 : Int32) q2.2))
set_option maxRecDepth 100000 in
set_option maxHeartbeats 4000000 in
theorem j_X12_countOf__4b {sk : List sm_Sh} (hx : sm_ext skM sk) (F : Nat) (kb4 : Int32 → Int32 → Int32 → sm_M → Option (Int32 × sm_M)) (hkb4 : ∀ (x1 : Int32) (x2 : Int32) (x3 : Int32) (M : sm_M) (r : Int32 × sm_M), kb4 x1 x2 x3 M = some r → sm_J (md_X12_countOf_, 3, sk, .inl (some (.int r.1)), r.2) 4 [some (.ref 80), some (.int x1), some (.int x2), some (.int x3)] [] M) : ∀ (x1 : Int32) (x2 : Int32) (x3 : Int32) (M : sm_M) (r : Int32 × sm_M), f_X12_countOf__4b F kb4 x1 x2 x3 M = some r → sm_J (md_X12_countOf_, 3, sk, .inl (some (.int r.1)), r.2) 4 [some (.ref 80), some (.int x1), some (.int x2), some (.int x3)] [] M := by
  intro x1 x2 x3  M r h
  unfold f_X12_countOf__4b at h
  refine sm_iload_n (q := 5) d_X12_countOf__4 rfl rfl ?_
  refine sm_aload_n (q := 6) d_X12_countOf__5 rfl rfl ?_
  refine sm_geti (q := 9) d_X12_countOf__6 rfl fl_X12_125 (hx sx_80) rfl ?_
  refine sm_icmp_ge (q := 12) (t := 35) d_X12_countOf__9 rfl rfl (fun c1 => ?_) (fun c1 => ?_)
  · replace h := sm_it c1 h
    refine sm_iload_n (q := 36) d_X12_countOf__35 rfl rfl ?_
    obtain rfl := Option.some.inj h
    exact sm_iret d_X12_countOf__36 rfl rfl rfl rfl
  · replace h := sm_if c1 h
    refine sm_iload_n (q := 13) d_X12_countOf__12 rfl rfl ?_
    refine sm_aload_n (q := 14) d_X12_countOf__13 rfl rfl ?_
    refine sm_iload_n (q := 15) d_X12_countOf__14 rfl rfl ?_
    obtain ⟨q2, e2, h⟩ := sm_bd h
    refine sm_callV (q := 18) (d' := 2) [.int x2] [.int x3] d_X12_countOf__15 rfl lk_X12_161 (hx sx_80) rfl rfl rfl (Nat.le_of_ble_eq_true rfl) (Nat.le_of_ble_eq_true rfl) (c_X12_shows hx F x3 M _ e2) (st9 := [.int q2.1, .int x2]) rfl ?_
    refine sm_iload_n (q := 19) d_X12_countOf__18 rfl rfl ?_
    refine sm_icmp_ne (q := 22) (t := 26) d_X12_countOf__19 rfl rfl (fun c3 => ?_) (fun c3 => ?_)
    · replace h := sm_if c3 h
      refine sm_iconst (q := 27) d_X12_countOf__26 rfl ci_0 ?_
      refine sm_fg [2] ?_
      exact j_X12_countOf__27 hx F kb4 hkb4 x1 x3 x2 (0 : Int32) q2.2 _ h
    · replace h := sm_it c3 h
      refine sm_iconst (q := 23) d_X12_countOf__22 rfl ci_1 ?_
      refine sm_goto (t := 27) d_X12_countOf__23 rfl ?_
      refine sm_fg [2] ?_
      exact j_X12_countOf__27 hx F kb4 hkb4 x1 x3 x2 (1 : Int32) q2.2 _ h
def f_X12_countOf__4 (F : Nat) (n : Nat) : Int32 → Int32 → Int32 → sm_M → Option (Int32 × sm_M) := match n with
 | 0 => fun _ _ _ _ => none
 | n + 1 => f_X12_countOf__4b F (f_X12_countOf__4 F n)
theorem j_X12_countOf__4 {sk : List sm_Sh} (hx : sm_ext skM sk) (F : Nat) : ∀ (n : Nat) (x1 : Int32) (x2 : Int32) (x3 : Int32) (M : sm_M) (r : Int32 × sm_M), f_X12_countOf__4 F n x1 x2 x3 M = some r → sm_J (md_X12_countOf_, 3, sk, .inl (some (.int r.1)), r.2) 4 [some (.ref 80), some (.int x1), some (.int x2), some (.int x3)] [] M := by
  intro n
  induction n with
  | zero => intro x1 x2 x3  M r h; exact nomatch (show (none : Option (Int32 × sm_M)) = some r from h)
  | succ n ih => exact j_X12_countOf__4b hx F (f_X12_countOf__4 F n) ih
def f_X12_countOf_ (F : Nat) (x1 : Int32) (M : sm_M) : Option (Int32 × sm_M) := f_X12_countOf__4 F F x1 (0 : Int32) (0 : Int32) M
set_option maxRecDepth 100000 in
set_option maxHeartbeats 4000000 in
theorem j_X12_countOf_ {sk : List sm_Sh} (hx : sm_ext skM sk) (F : Nat) : ∀ (x1 : Int32) (M : sm_M) (r : Int32 × sm_M), f_X12_countOf_ F x1 M = some r → sm_J (md_X12_countOf_, 3, sk, .inl (some (.int r.1)), r.2) 0 [some (.ref 80), some (.int x1), none, none] [] M := by
  intro x1  M r h
  unfold f_X12_countOf_ at h
  refine sm_iconst (q := 1) d_X12_countOf__0 rfl ci_0 ?_
  refine sm_istore_n (q := 2) (lt := [some (.ref 80), some (.int x1), some (.int (0 : Int32)), none]) d_X12_countOf__1 rfl (Nat.le_of_ble_eq_true rfl) rfl rfl ?_
  refine sm_iconst (q := 3) d_X12_countOf__2 rfl ci_0 ?_
  refine sm_istore_n (q := 4) (lt := [some (.ref 80), some (.int x1), some (.int (0 : Int32)), some (.int (0 : Int32))]) d_X12_countOf__3 rfl (Nat.le_of_ble_eq_true rfl) rfl rfl ?_
  exact j_X12_countOf__4 hx F F x1 (0 : Int32) (0 : Int32) M _ h
theorem c_X12_countOf_ {sk : List sm_Sh} (hx : sm_ext skM sk) (F : Nat) (x1 : Int32) (M : sm_M) (r : Int32 × sm_M) (h : f_X12_countOf_ F x1 M = some r) : sm_Ct yX12_countOf_ md_X12_countOf_ 3 sk [.ref 80, .int x1] M (.inl (some (.int r.1))) r.2 := sm_enter 2 pn_X12 rfl (Nat.le_of_ble_eq_true rfl) rfl (j_X12_countOf_ hx F x1 M r h)
/-! UniversalCyclesModel.occurrences(I)I -/
theorem d_X12_occurrences_0 : decode cX12_occurrences 0 = .ok (.aload_n 0, 1) := by decide +kernel
theorem d_X12_occurrences_1 : decode cX12_occurrences 1 = .ok (.iconst 0, 1) := by decide +kernel
theorem d_X12_occurrences_2 : decode cX12_occurrences 2 = .ok (.putfield 1, 3) := by decide +kernel
theorem d_X12_occurrences_5 : decode cX12_occurrences 5 = .ok (.aload_n 0, 1) := by decide +kernel
theorem d_X12_occurrences_6 : decode cX12_occurrences 6 = .ok (.iload_n 1, 1) := by decide +kernel
theorem d_X12_occurrences_7 : decode cX12_occurrences 7 = .ok (.invokevirtual 131, 3) := by decide +kernel
theorem d_X12_occurrences_10 : decode cX12_occurrences 10 = .ok (.ifCond .eq 11, 3) := by decide +kernel
theorem d_X12_occurrences_13 : decode cX12_occurrences 13 = .ok (.aload_n 0, 1) := by decide +kernel
theorem d_X12_occurrences_14 : decode cX12_occurrences 14 = .ok (.iload_n 1, 1) := by decide +kernel
theorem d_X12_occurrences_15 : decode cX12_occurrences 15 = .ok (.invokevirtual 164, 3) := by decide +kernel
theorem d_X12_occurrences_18 : decode cX12_occurrences 18 = .ok (.goto 8, 3) := by decide +kernel
theorem d_X12_occurrences_21 : decode cX12_occurrences 21 = .ok (.aload_n 0, 1) := by decide +kernel
theorem d_X12_occurrences_22 : decode cX12_occurrences 22 = .ok (.iconst 1, 1) := by decide +kernel
theorem d_X12_occurrences_23 : decode cX12_occurrences 23 = .ok (.invokevirtual 122, 3) := by decide +kernel
theorem d_X12_occurrences_26 : decode cX12_occurrences 26 = .ok (.ireturn, 1) := by decide +kernel
def f_X12_occurrences_26 (F : Nat) (y0 : Int32) (M : sm_M) : Option (Int32 × sm_M) := some (y0, M)
set_option maxRecDepth 100000 in
set_option maxHeartbeats 4000000 in
theorem j_X12_occurrences_26 {sk : List sm_Sh} (hx : sm_ext skM sk) (F : Nat) : ∀ (y0 : Int32) (M : sm_M) (r : Int32 × sm_M), f_X12_occurrences_26 F y0 M = some r → sm_J (md_X12_occurrences, 4, sk, .inl (some (.int r.1)), r.2) 26 [none, none] [.int y0] M := by
  intro y0  M r h
  unfold f_X12_occurrences_26 at h
  obtain rfl := Option.some.inj h
  exact sm_iret d_X12_occurrences_26 rfl rfl rfl rfl
def f_X12_occurrences (F : Nat) (x1 : Int32) (M : sm_M) : Option (Int32 × sm_M) := (f_X12_isElement F x1 (sm_mi M 80 0 (0 : Int32))).bind fun q1 => if q1 = 0 then ((f_X12_fail F (1 : Int32) (sm_mi M 80 0 (0 : Int32))).bind fun q3 => f_X12_occurrences_26 F q3.1 q3.2) else ((f_X12_countOf_ F x1 (sm_mi M 80 0 (0 : Int32))).bind fun q4 => f_X12_occurrences_26 F q4.1 q4.2)
set_option maxRecDepth 100000 in
set_option maxHeartbeats 4000000 in
theorem j_X12_occurrences {sk : List sm_Sh} (hx : sm_ext skM sk) (F : Nat) : ∀ (x1 : Int32) (M : sm_M) (r : Int32 × sm_M), f_X12_occurrences F x1 M = some r → sm_J (md_X12_occurrences, 4, sk, .inl (some (.int r.1)), r.2) 0 [some (.ref 80), some (.int x1)] [] M := by
  intro x1  M r h
  unfold f_X12_occurrences at h
  refine sm_aload_n (q := 1) d_X12_occurrences_0 rfl rfl ?_
  refine sm_iconst (q := 2) d_X12_occurrences_1 rfl ci_0 ?_
  refine sm_puti (q := 5) d_X12_occurrences_2 rfl fw_X12_1 (hx sx_80) rfl rfl rfl ?_
  refine sm_aload_n (q := 6) d_X12_occurrences_5 rfl rfl ?_
  refine sm_iload_n (q := 7) d_X12_occurrences_6 rfl rfl ?_
  obtain ⟨q1, e1, h⟩ := sm_bd h
  refine sm_callV (q := 10) (d' := 1) [] [.int x1] d_X12_occurrences_7 rfl lk_X12_131 (hx sx_80) rfl rfl rfl (Nat.le_of_ble_eq_true rfl) (Nat.le_of_ble_eq_true rfl) (c_X12_isElement hx F x1 (sm_mi M 80 0 (0 : Int32)) _ e1) (st9 := [.int q1]) rfl ?_
  refine sm_if_eq (q := 13) (t := 21) d_X12_occurrences_10 rfl rfl (fun c2 => ?_) (fun c2 => ?_)
  · replace h := sm_it c2 h
    refine sm_aload_n (q := 22) d_X12_occurrences_21 rfl rfl ?_
    refine sm_iconst (q := 23) d_X12_occurrences_22 rfl ci_1 ?_
    obtain ⟨q3, e3, h⟩ := sm_bd h
    refine sm_callV (q := 26) (d' := 0) [] [.int (1 : Int32)] d_X12_occurrences_23 rfl lk_X12_122 (hx sx_80) rfl rfl rfl (Nat.le_of_ble_eq_true rfl) (Nat.le_of_ble_eq_true rfl) (c_X12_fail hx F (1 : Int32) (sm_mi M 80 0 (0 : Int32)) _ e3) (st9 := [.int q3.1]) rfl ?_
    refine sm_fg [0, 1] ?_
    exact j_X12_occurrences_26 hx F q3.1 q3.2 _ h
  · replace h := sm_if c2 h
    refine sm_aload_n (q := 14) d_X12_occurrences_13 rfl rfl ?_
    refine sm_iload_n (q := 15) d_X12_occurrences_14 rfl rfl ?_
    obtain ⟨q4, e4, h⟩ := sm_bd h
    refine sm_callV (q := 18) (d' := 3) [] [.int x1] d_X12_occurrences_15 rfl lk_X12_164 (hx sx_80) rfl rfl rfl (Nat.le_of_ble_eq_true rfl) (Nat.le_of_ble_eq_true rfl) (c_X12_countOf_ hx F x1 (sm_mi M 80 0 (0 : Int32)) _ e4) (st9 := [.int q4.1]) rfl ?_
    refine sm_goto (t := 26) d_X12_occurrences_18 rfl ?_
    refine sm_fg [0, 1] ?_
    exact j_X12_occurrences_26 hx F q4.1 q4.2 _ h
theorem c_X12_occurrences {sk : List sm_Sh} (hx : sm_ext skM sk) (F : Nat) (x1 : Int32) (M : sm_M) (r : Int32 × sm_M) (h : f_X12_occurrences F x1 M = some r) : sm_Ct yX12_occurrences md_X12_occurrences 4 sk [.ref 80, .int x1] M (.inl (some (.int r.1))) r.2 := sm_enter 0 pn_X12 rfl (Nat.le_of_ble_eq_true rfl) rfl (j_X12_occurrences hx F x1 M r h)
/-! UniversalCyclesModel.firstWith(I)I -/
theorem d_X12_firstWith_0 : decode cX12_firstWith 0 = .ok (.iconst 0, 1) := by decide +kernel
theorem d_X12_firstWith_1 : decode cX12_firstWith 1 = .ok (.istore_n 2, 1) := by decide +kernel
theorem d_X12_firstWith_2 : decode cX12_firstWith 2 = .ok (.iload_n 2, 1) := by decide +kernel
theorem d_X12_firstWith_3 : decode cX12_firstWith 3 = .ok (.aload_n 0, 1) := by decide +kernel
theorem d_X12_firstWith_4 : decode cX12_firstWith 4 = .ok (.getfield 125, 3) := by decide +kernel
theorem d_X12_firstWith_7 : decode cX12_firstWith 7 = .ok (.if_icmp .ge 20, 3) := by decide +kernel
theorem d_X12_firstWith_10 : decode cX12_firstWith 10 = .ok (.aload_n 0, 1) := by decide +kernel
theorem d_X12_firstWith_11 : decode cX12_firstWith 11 = .ok (.iload_n 2, 1) := by decide +kernel
theorem d_X12_firstWith_12 : decode cX12_firstWith 12 = .ok (.invokevirtual 161, 3) := by decide +kernel
theorem d_X12_firstWith_15 : decode cX12_firstWith 15 = .ok (.iload_n 1, 1) := by decide +kernel
theorem d_X12_firstWith_16 : decode cX12_firstWith 16 = .ok (.if_icmp .ne 5, 3) := by decide +kernel
theorem d_X12_firstWith_19 : decode cX12_firstWith 19 = .ok (.iload_n 2, 1) := by decide +kernel
theorem d_X12_firstWith_20 : decode cX12_firstWith 20 = .ok (.ireturn, 1) := by decide +kernel
theorem d_X12_firstWith_21 : decode cX12_firstWith 21 = .ok (.iinc 2 1, 3) := by decide +kernel
theorem d_X12_firstWith_24 : decode cX12_firstWith 24 = .ok (.goto (-22), 3) := by decide +kernel
theorem d_X12_firstWith_27 : decode cX12_firstWith 27 = .ok (.iconst (-1), 1) := by decide +kernel
theorem d_X12_firstWith_28 : decode cX12_firstWith 28 = .ok (.ireturn, 1) := by decide +kernel
def f_X12_firstWith_2b (F : Nat) (kb2 : Int32 → Int32 → sm_M → Option (Int32 × sm_M)) (x1 : Int32) (x2 : Int32) (M : sm_M) : Option (Int32 × sm_M) := if (M.1 80 12) ≤ x2 then (some ((-1 : Int32), M)) else ((f_X12_shows F x2 M).bind fun q2 => if q2.1 = x1 then (some (x2, q2.2)) else (kb2 x1 (x2 + 1) q2.2))
set_option maxRecDepth 100000 in
set_option maxHeartbeats 4000000 in
theorem j_X12_firstWith_2b {sk : List sm_Sh} (hx : sm_ext skM sk) (F : Nat) (kb2 : Int32 → Int32 → sm_M → Option (Int32 × sm_M)) (hkb2 : ∀ (x1 : Int32) (x2 : Int32) (M : sm_M) (r : Int32 × sm_M), kb2 x1 x2 M = some r → sm_J (md_X12_firstWith, 3, sk, .inl (some (.int r.1)), r.2) 2 [some (.ref 80), some (.int x1), some (.int x2)] [] M) : ∀ (x1 : Int32) (x2 : Int32) (M : sm_M) (r : Int32 × sm_M), f_X12_firstWith_2b F kb2 x1 x2 M = some r → sm_J (md_X12_firstWith, 3, sk, .inl (some (.int r.1)), r.2) 2 [some (.ref 80), some (.int x1), some (.int x2)] [] M := by
  intro x1 x2  M r h
  unfold f_X12_firstWith_2b at h
  refine sm_iload_n (q := 3) d_X12_firstWith_2 rfl rfl ?_
  refine sm_aload_n (q := 4) d_X12_firstWith_3 rfl rfl ?_
  refine sm_geti (q := 7) d_X12_firstWith_4 rfl fl_X12_125 (hx sx_80) rfl ?_
  refine sm_icmp_ge (q := 10) (t := 27) d_X12_firstWith_7 rfl rfl (fun c1 => ?_) (fun c1 => ?_)
  · replace h := sm_it c1 h
    refine sm_iconst (q := 28) d_X12_firstWith_27 rfl ci_m1 ?_
    obtain rfl := Option.some.inj h
    exact sm_iret d_X12_firstWith_28 rfl rfl rfl rfl
  · replace h := sm_if c1 h
    refine sm_aload_n (q := 11) d_X12_firstWith_10 rfl rfl ?_
    refine sm_iload_n (q := 12) d_X12_firstWith_11 rfl rfl ?_
    obtain ⟨q2, e2, h⟩ := sm_bd h
    refine sm_callV (q := 15) (d' := 2) [] [.int x2] d_X12_firstWith_12 rfl lk_X12_161 (hx sx_80) rfl rfl rfl (Nat.le_of_ble_eq_true rfl) (Nat.le_of_ble_eq_true rfl) (c_X12_shows hx F x2 M _ e2) (st9 := [.int q2.1]) rfl ?_
    refine sm_iload_n (q := 16) d_X12_firstWith_15 rfl rfl ?_
    refine sm_icmp_ne (q := 19) (t := 21) d_X12_firstWith_16 rfl rfl (fun c3 => ?_) (fun c3 => ?_)
    · replace h := sm_if c3 h
      refine sm_iinc (q := 24) (v := (x2 + 1)) (lt := [some (.ref 80), some (.int x1), some (.int (x2 + 1))]) d_X12_firstWith_21 rfl rfl (ii_1 _) (Nat.le_of_ble_eq_true rfl) rfl rfl ?_
      refine sm_goto (t := 2) d_X12_firstWith_24 rfl ?_
      exact hkb2 x1 (x2 + 1) q2.2 _ h
    · replace h := sm_it c3 h
      refine sm_iload_n (q := 20) d_X12_firstWith_19 rfl rfl ?_
      obtain rfl := Option.some.inj h
      exact sm_iret d_X12_firstWith_20 rfl rfl rfl rfl
def f_X12_firstWith_2 (F : Nat) (n : Nat) : Int32 → Int32 → sm_M → Option (Int32 × sm_M) := match n with
 | 0 => fun _ _ _ => none
 | n + 1 => f_X12_firstWith_2b F (f_X12_firstWith_2 F n)
theorem j_X12_firstWith_2 {sk : List sm_Sh} (hx : sm_ext skM sk) (F : Nat) : ∀ (n : Nat) (x1 : Int32) (x2 : Int32) (M : sm_M) (r : Int32 × sm_M), f_X12_firstWith_2 F n x1 x2 M = some r → sm_J (md_X12_firstWith, 3, sk, .inl (some (.int r.1)), r.2) 2 [some (.ref 80), some (.int x1), some (.int x2)] [] M := by
  intro n
  induction n with
  | zero => intro x1 x2  M r h; exact nomatch (show (none : Option (Int32 × sm_M)) = some r from h)
  | succ n ih => exact j_X12_firstWith_2b hx F (f_X12_firstWith_2 F n) ih
def f_X12_firstWith (F : Nat) (x1 : Int32) (M : sm_M) : Option (Int32 × sm_M) := f_X12_firstWith_2 F F x1 (0 : Int32) M
set_option maxRecDepth 100000 in
set_option maxHeartbeats 4000000 in
theorem j_X12_firstWith {sk : List sm_Sh} (hx : sm_ext skM sk) (F : Nat) : ∀ (x1 : Int32) (M : sm_M) (r : Int32 × sm_M), f_X12_firstWith F x1 M = some r → sm_J (md_X12_firstWith, 3, sk, .inl (some (.int r.1)), r.2) 0 [some (.ref 80), some (.int x1), none] [] M := by
  intro x1  M r h
  unfold f_X12_firstWith at h
  refine sm_iconst (q := 1) d_X12_firstWith_0 rfl ci_0 ?_
  refine sm_istore_n (q := 2) (lt := [some (.ref 80), some (.int x1), some (.int (0 : Int32))]) d_X12_firstWith_1 rfl (Nat.le_of_ble_eq_true rfl) rfl rfl ?_
  exact j_X12_firstWith_2 hx F F x1 (0 : Int32) M _ h
theorem c_X12_firstWith {sk : List sm_Sh} (hx : sm_ext skM sk) (F : Nat) (x1 : Int32) (M : sm_M) (r : Int32 × sm_M) (h : f_X12_firstWith F x1 M = some r) : sm_Ct yX12_firstWith md_X12_firstWith 3 sk [.ref 80, .int x1] M (.inl (some (.int r.1))) r.2 := sm_enter 1 pn_X12 rfl (Nat.le_of_ble_eq_true rfl) rfl (j_X12_firstWith hx F x1 M r h)
/-! UniversalCyclesModel.locate(I)I -/
theorem d_X12_locate_0 : decode cX12_locate 0 = .ok (.aload_n 0, 1) := by decide +kernel
theorem d_X12_locate_1 : decode cX12_locate 1 = .ok (.iconst 0, 1) := by decide +kernel
theorem d_X12_locate_2 : decode cX12_locate 2 = .ok (.putfield 1, 3) := by decide +kernel
theorem d_X12_locate_5 : decode cX12_locate 5 = .ok (.aload_n 0, 1) := by decide +kernel
theorem d_X12_locate_6 : decode cX12_locate 6 = .ok (.iload_n 1, 1) := by decide +kernel
theorem d_X12_locate_7 : decode cX12_locate 7 = .ok (.invokevirtual 131, 3) := by decide +kernel
theorem d_X12_locate_10 : decode cX12_locate 10 = .ok (.ifCond .ne 9, 3) := by decide +kernel
theorem d_X12_locate_13 : decode cX12_locate 13 = .ok (.aload_n 0, 1) := by decide +kernel
theorem d_X12_locate_14 : decode cX12_locate 14 = .ok (.iconst 1, 1) := by decide +kernel
theorem d_X12_locate_15 : decode cX12_locate 15 = .ok (.invokevirtual 122, 3) := by decide +kernel
theorem d_X12_locate_18 : decode cX12_locate 18 = .ok (.ireturn, 1) := by decide +kernel
theorem d_X12_locate_19 : decode cX12_locate 19 = .ok (.aload_n 0, 1) := by decide +kernel
theorem d_X12_locate_20 : decode cX12_locate 20 = .ok (.iload_n 1, 1) := by decide +kernel
theorem d_X12_locate_21 : decode cX12_locate 21 = .ok (.invokevirtual 166, 3) := by decide +kernel
theorem d_X12_locate_24 : decode cX12_locate 24 = .ok (.istore_n 2, 1) := by decide +kernel
theorem d_X12_locate_25 : decode cX12_locate 25 = .ok (.iload_n 2, 1) := by decide +kernel
theorem d_X12_locate_26 : decode cX12_locate 26 = .ok (.iconst (-1), 1) := by decide +kernel
theorem d_X12_locate_27 : decode cX12_locate 27 = .ok (.if_icmp .ne 11, 3) := by decide +kernel
theorem d_X12_locate_30 : decode cX12_locate 30 = .ok (.aload_n 0, 1) := by decide +kernel
theorem d_X12_locate_31 : decode cX12_locate 31 = .ok (.iconst 2, 1) := by decide +kernel
theorem d_X12_locate_32 : decode cX12_locate 32 = .ok (.invokevirtual 122, 3) := by decide +kernel
theorem d_X12_locate_35 : decode cX12_locate 35 = .ok (.goto 4, 3) := by decide +kernel
theorem d_X12_locate_38 : decode cX12_locate 38 = .ok (.iload_n 2, 1) := by decide +kernel
theorem d_X12_locate_39 : decode cX12_locate 39 = .ok (.ireturn, 1) := by decide +kernel
def f_X12_locate_39 (F : Nat) (y0 : Int32) (M : sm_M) : Option (Int32 × sm_M) := some (y0, M)
set_option maxRecDepth 100000 in
set_option maxHeartbeats 4000000 in
theorem j_X12_locate_39 {sk : List sm_Sh} (hx : sm_ext skM sk) (F : Nat) : ∀ (y0 : Int32) (M : sm_M) (r : Int32 × sm_M), f_X12_locate_39 F y0 M = some r → sm_J (md_X12_locate, 4, sk, .inl (some (.int r.1)), r.2) 39 [none, none, none] [.int y0] M := by
  intro y0  M r h
  unfold f_X12_locate_39 at h
  obtain rfl := Option.some.inj h
  exact sm_iret d_X12_locate_39 rfl rfl rfl rfl
def f_X12_locate (F : Nat) (x1 : Int32) (M : sm_M) : Option (Int32 × sm_M) := (f_X12_isElement F x1 (sm_mi M 80 0 (0 : Int32))).bind fun q1 => if q1 = 0 then ((f_X12_fail F (1 : Int32) (sm_mi M 80 0 (0 : Int32))).bind fun q6 => some (q6.1, q6.2)) else ((f_X12_firstWith F x1 (sm_mi M 80 0 (0 : Int32))).bind fun q3 => if q3.1 = (-1 : Int32) then ((f_X12_fail F (2 : Int32) q3.2).bind fun q5 => f_X12_locate_39 F q5.1 q5.2) else (f_X12_locate_39 F q3.1 q3.2))
set_option maxRecDepth 100000 in
set_option maxHeartbeats 4000000 in
theorem j_X12_locate {sk : List sm_Sh} (hx : sm_ext skM sk) (F : Nat) : ∀ (x1 : Int32) (M : sm_M) (r : Int32 × sm_M), f_X12_locate F x1 M = some r → sm_J (md_X12_locate, 4, sk, .inl (some (.int r.1)), r.2) 0 [some (.ref 80), some (.int x1), none] [] M := by
  intro x1  M r h
  unfold f_X12_locate at h
  refine sm_aload_n (q := 1) d_X12_locate_0 rfl rfl ?_
  refine sm_iconst (q := 2) d_X12_locate_1 rfl ci_0 ?_
  refine sm_puti (q := 5) d_X12_locate_2 rfl fw_X12_1 (hx sx_80) rfl rfl rfl ?_
  refine sm_aload_n (q := 6) d_X12_locate_5 rfl rfl ?_
  refine sm_iload_n (q := 7) d_X12_locate_6 rfl rfl ?_
  obtain ⟨q1, e1, h⟩ := sm_bd h
  refine sm_callV (q := 10) (d' := 1) [] [.int x1] d_X12_locate_7 rfl lk_X12_131 (hx sx_80) rfl rfl rfl (Nat.le_of_ble_eq_true rfl) (Nat.le_of_ble_eq_true rfl) (c_X12_isElement hx F x1 (sm_mi M 80 0 (0 : Int32)) _ e1) (st9 := [.int q1]) rfl ?_
  refine sm_if_ne (q := 13) (t := 19) d_X12_locate_10 rfl rfl (fun c2 => ?_) (fun c2 => ?_)
  · replace h := sm_if c2 h
    refine sm_aload_n (q := 20) d_X12_locate_19 rfl rfl ?_
    refine sm_iload_n (q := 21) d_X12_locate_20 rfl rfl ?_
    obtain ⟨q3, e3, h⟩ := sm_bd h
    refine sm_callV (q := 24) (d' := 3) [] [.int x1] d_X12_locate_21 rfl lk_X12_166 (hx sx_80) rfl rfl rfl (Nat.le_of_ble_eq_true rfl) (Nat.le_of_ble_eq_true rfl) (c_X12_firstWith hx F x1 (sm_mi M 80 0 (0 : Int32)) _ e3) (st9 := [.int q3.1]) rfl ?_
    refine sm_istore_n (q := 25) (lt := [some (.ref 80), some (.int x1), some (.int q3.1)]) d_X12_locate_24 rfl (Nat.le_of_ble_eq_true rfl) rfl rfl ?_
    refine sm_iload_n (q := 26) d_X12_locate_25 rfl rfl ?_
    refine sm_iconst (q := 27) d_X12_locate_26 rfl ci_m1 ?_
    refine sm_icmp_ne (q := 30) (t := 38) d_X12_locate_27 rfl rfl (fun c4 => ?_) (fun c4 => ?_)
    · replace h := sm_if c4 h
      refine sm_iload_n (q := 39) d_X12_locate_38 rfl rfl ?_
      refine sm_fg [0, 1, 2] ?_
      exact j_X12_locate_39 hx F q3.1 q3.2 _ h
    · replace h := sm_it c4 h
      refine sm_aload_n (q := 31) d_X12_locate_30 rfl rfl ?_
      refine sm_iconst (q := 32) d_X12_locate_31 rfl ci_2 ?_
      obtain ⟨q5, e5, h⟩ := sm_bd h
      refine sm_callV (q := 35) (d' := 0) [] [.int (2 : Int32)] d_X12_locate_32 rfl lk_X12_122 (hx sx_80) rfl rfl rfl (Nat.le_of_ble_eq_true rfl) (Nat.le_of_ble_eq_true rfl) (c_X12_fail hx F (2 : Int32) q3.2 _ e5) (st9 := [.int q5.1]) rfl ?_
      refine sm_goto (t := 39) d_X12_locate_35 rfl ?_
      refine sm_fg [0, 1, 2] ?_
      exact j_X12_locate_39 hx F q5.1 q5.2 _ h
  · replace h := sm_it c2 h
    refine sm_aload_n (q := 14) d_X12_locate_13 rfl rfl ?_
    refine sm_iconst (q := 15) d_X12_locate_14 rfl ci_1 ?_
    obtain ⟨q6, e6, h⟩ := sm_bd h
    refine sm_callV (q := 18) (d' := 0) [] [.int (1 : Int32)] d_X12_locate_15 rfl lk_X12_122 (hx sx_80) rfl rfl rfl (Nat.le_of_ble_eq_true rfl) (Nat.le_of_ble_eq_true rfl) (c_X12_fail hx F (1 : Int32) (sm_mi M 80 0 (0 : Int32)) _ e6) (st9 := [.int q6.1]) rfl ?_
    obtain rfl := Option.some.inj h
    exact sm_iret d_X12_locate_18 rfl rfl rfl rfl
theorem c_X12_locate {sk : List sm_Sh} (hx : sm_ext skM sk) (F : Nat) (x1 : Int32) (M : sm_M) (r : Int32 × sm_M) (h : f_X12_locate F x1 M = some r) : sm_Ct yX12_locate md_X12_locate 4 sk [.ref 80, .int x1] M (.inl (some (.int r.1))) r.2 := sm_enter 1 pn_X12 rfl (Nat.le_of_ble_eq_true rfl) rfl (j_X12_locate hx F x1 M r h)
/-! UniversalCyclesModel.firstInvalid()I -/
theorem d_X12_firstInvalid_0 : decode cX12_firstInvalid 0 = .ok (.aload_n 0, 1) := by decide +kernel
theorem d_X12_firstInvalid_1 : decode cX12_firstInvalid 1 = .ok (.iconst 0, 1) := by decide +kernel
theorem d_X12_firstInvalid_2 : decode cX12_firstInvalid 2 = .ok (.putfield 1, 3) := by decide +kernel
theorem d_X12_firstInvalid_5 : decode cX12_firstInvalid 5 = .ok (.aload_n 0, 1) := by decide +kernel
theorem d_X12_firstInvalid_6 : decode cX12_firstInvalid 6 = .ok (.iconst (-1), 1) := by decide +kernel
theorem d_X12_firstInvalid_7 : decode cX12_firstInvalid 7 = .ok (.invokevirtual 166, 3) := by decide +kernel
theorem d_X12_firstInvalid_10 : decode cX12_firstInvalid 10 = .ok (.ireturn, 1) := by decide +kernel
def f_X12_firstInvalid (F : Nat) (M : sm_M) : Option (Int32 × sm_M) := (f_X12_firstWith F (-1 : Int32) (sm_mi M 80 0 (0 : Int32))).bind fun q1 => some (q1.1, q1.2)
set_option maxRecDepth 100000 in
set_option maxHeartbeats 4000000 in
theorem j_X12_firstInvalid {sk : List sm_Sh} (hx : sm_ext skM sk) (F : Nat) : ∀ (M : sm_M) (r : Int32 × sm_M), f_X12_firstInvalid F M = some r → sm_J (md_X12_firstInvalid, 4, sk, .inl (some (.int r.1)), r.2) 0 [some (.ref 80)] [] M := by
  intro   M r h
  unfold f_X12_firstInvalid at h
  refine sm_aload_n (q := 1) d_X12_firstInvalid_0 rfl rfl ?_
  refine sm_iconst (q := 2) d_X12_firstInvalid_1 rfl ci_0 ?_
  refine sm_puti (q := 5) d_X12_firstInvalid_2 rfl fw_X12_1 (hx sx_80) rfl rfl rfl ?_
  refine sm_aload_n (q := 6) d_X12_firstInvalid_5 rfl rfl ?_
  refine sm_iconst (q := 7) d_X12_firstInvalid_6 rfl ci_m1 ?_
  obtain ⟨q1, e1, h⟩ := sm_bd h
  refine sm_callV (q := 10) (d' := 3) [] [.int (-1 : Int32)] d_X12_firstInvalid_7 rfl lk_X12_166 (hx sx_80) rfl rfl rfl (Nat.le_of_ble_eq_true rfl) (Nat.le_of_ble_eq_true rfl) (c_X12_firstWith hx F (-1 : Int32) (sm_mi M 80 0 (0 : Int32)) _ e1) (st9 := [.int q1.1]) rfl ?_
  obtain rfl := Option.some.inj h
  exact sm_iret d_X12_firstInvalid_10 rfl rfl rfl rfl
theorem c_X12_firstInvalid {sk : List sm_Sh} (hx : sm_ext skM sk) (F : Nat) (M : sm_M) (r : Int32 × sm_M) (h : f_X12_firstInvalid F M = some r) : sm_Ct yX12_firstInvalid md_X12_firstInvalid 4 sk [.ref 80] M (.inl (some (.int r.1))) r.2 := sm_enter 0 pn_X12 rfl (Nat.le_of_ble_eq_true rfl) rfl (j_X12_firstInvalid hx F M r h)
/-! UniversalCyclesModel.firstRepeat()I -/
theorem d_X12_firstRepeat_0 : decode cX12_firstRepeat 0 = .ok (.aload_n 0, 1) := by decide +kernel
theorem d_X12_firstRepeat_1 : decode cX12_firstRepeat 1 = .ok (.iconst 0, 1) := by decide +kernel
theorem d_X12_firstRepeat_2 : decode cX12_firstRepeat 2 = .ok (.putfield 1, 3) := by decide +kernel
theorem d_X12_firstRepeat_5 : decode cX12_firstRepeat 5 = .ok (.iconst 0, 1) := by decide +kernel
theorem d_X12_firstRepeat_6 : decode cX12_firstRepeat 6 = .ok (.istore_n 1, 1) := by decide +kernel
theorem d_X12_firstRepeat_7 : decode cX12_firstRepeat 7 = .ok (.iload_n 1, 1) := by decide +kernel
theorem d_X12_firstRepeat_8 : decode cX12_firstRepeat 8 = .ok (.aload_n 0, 1) := by decide +kernel
theorem d_X12_firstRepeat_9 : decode cX12_firstRepeat 9 = .ok (.getfield 125, 3) := by decide +kernel
theorem d_X12_firstRepeat_12 : decode cX12_firstRepeat 12 = .ok (.if_icmp .ge 31, 3) := by decide +kernel
theorem d_X12_firstRepeat_15 : decode cX12_firstRepeat 15 = .ok (.aload_n 0, 1) := by decide +kernel
theorem d_X12_firstRepeat_16 : decode cX12_firstRepeat 16 = .ok (.iload_n 1, 1) := by decide +kernel
theorem d_X12_firstRepeat_17 : decode cX12_firstRepeat 17 = .ok (.invokevirtual 161, 3) := by decide +kernel
theorem d_X12_firstRepeat_20 : decode cX12_firstRepeat 20 = .ok (.istore_n 2, 1) := by decide +kernel
theorem d_X12_firstRepeat_21 : decode cX12_firstRepeat 21 = .ok (.iload_n 2, 1) := by decide +kernel
theorem d_X12_firstRepeat_22 : decode cX12_firstRepeat 22 = .ok (.iconst (-1), 1) := by decide +kernel
theorem d_X12_firstRepeat_23 : decode cX12_firstRepeat 23 = .ok (.if_icmp .eq 14, 3) := by decide +kernel
theorem d_X12_firstRepeat_26 : decode cX12_firstRepeat 26 = .ok (.aload_n 0, 1) := by decide +kernel
theorem d_X12_firstRepeat_27 : decode cX12_firstRepeat 27 = .ok (.iload_n 2, 1) := by decide +kernel
theorem d_X12_firstRepeat_28 : decode cX12_firstRepeat 28 = .ok (.invokevirtual 166, 3) := by decide +kernel
theorem d_X12_firstRepeat_31 : decode cX12_firstRepeat 31 = .ok (.iload_n 1, 1) := by decide +kernel
theorem d_X12_firstRepeat_32 : decode cX12_firstRepeat 32 = .ok (.if_icmp .ge 5, 3) := by decide +kernel
theorem d_X12_firstRepeat_35 : decode cX12_firstRepeat 35 = .ok (.iload_n 1, 1) := by decide +kernel
theorem d_X12_firstRepeat_36 : decode cX12_firstRepeat 36 = .ok (.ireturn, 1) := by decide +kernel
theorem d_X12_firstRepeat_37 : decode cX12_firstRepeat 37 = .ok (.iinc 1 1, 3) := by decide +kernel
theorem d_X12_firstRepeat_40 : decode cX12_firstRepeat 40 = .ok (.goto (-33), 3) := by decide +kernel
theorem d_X12_firstRepeat_43 : decode cX12_firstRepeat 43 = .ok (.iconst (-1), 1) := by decide +kernel
theorem d_X12_firstRepeat_44 : decode cX12_firstRepeat 44 = .ok (.ireturn, 1) := by decide +kernel
def f_X12_firstRepeat_37 (F : Nat) (kb7 : Int32 → sm_M → Option (Int32 × sm_M)) (x1 : Int32) (M : sm_M) : Option (Int32 × sm_M) := kb7 (x1 + 1) M
set_option maxRecDepth 100000 in
set_option maxHeartbeats 4000000 in
theorem j_X12_firstRepeat_37 {sk : List sm_Sh} (hx : sm_ext skM sk) (F : Nat) (kb7 : Int32 → sm_M → Option (Int32 × sm_M)) (hkb7 : ∀ (x1 : Int32) (M : sm_M) (r : Int32 × sm_M), kb7 x1 M = some r → sm_J (md_X12_firstRepeat, 4, sk, .inl (some (.int r.1)), r.2) 7 [some (.ref 80), some (.int x1), none] [] M) : ∀ (x1 : Int32) (M : sm_M) (r : Int32 × sm_M), f_X12_firstRepeat_37 F kb7 x1 M = some r → sm_J (md_X12_firstRepeat, 4, sk, .inl (some (.int r.1)), r.2) 37 [some (.ref 80), some (.int x1), none] [] M := by
  intro x1  M r h
  unfold f_X12_firstRepeat_37 at h
  refine sm_iinc (q := 40) (v := (x1 + 1)) (lt := [some (.ref 80), some (.int (x1 + 1)), none]) d_X12_firstRepeat_37 rfl rfl (ii_1 _) (Nat.le_of_ble_eq_true rfl) rfl rfl ?_
  refine sm_goto (t := 7) d_X12_firstRepeat_40 rfl ?_
  exact hkb7 (x1 + 1) M _ h
def f_X12_firstRepeat_7b (F : Nat) (kb7 : Int32 → sm_M → Option (Int32 × sm_M)) (x1 : Int32) (M : sm_M) : Option (Int32 × sm_M) := if (M.1 80 12) ≤ x1 then (some ((-1 : Int32), M)) else ((f_X12_shows F x1 M).bind fun q2 => if q2.1 = (-1 : Int32) then (f_X12_firstRepeat_37 F kb7 x1 q2.2) else ((f_X12_firstWith F q2.1 q2.2).bind fun q4 => if x1 ≤ q4.1 then (f_X12_firstRepeat_37 F kb7 x1 q4.2) else (some (x1, q4.2))))
set_option maxRecDepth 100000 in
set_option maxHeartbeats 4000000 in
theorem j_X12_firstRepeat_7b {sk : List sm_Sh} (hx : sm_ext skM sk) (F : Nat) (kb7 : Int32 → sm_M → Option (Int32 × sm_M)) (hkb7 : ∀ (x1 : Int32) (M : sm_M) (r : Int32 × sm_M), kb7 x1 M = some r → sm_J (md_X12_firstRepeat, 4, sk, .inl (some (.int r.1)), r.2) 7 [some (.ref 80), some (.int x1), none] [] M) : ∀ (x1 : Int32) (M : sm_M) (r : Int32 × sm_M), f_X12_firstRepeat_7b F kb7 x1 M = some r → sm_J (md_X12_firstRepeat, 4, sk, .inl (some (.int r.1)), r.2) 7 [some (.ref 80), some (.int x1), none] [] M := by
  intro x1  M r h
  unfold f_X12_firstRepeat_7b at h
  refine sm_iload_n (q := 8) d_X12_firstRepeat_7 rfl rfl ?_
  refine sm_aload_n (q := 9) d_X12_firstRepeat_8 rfl rfl ?_
  refine sm_geti (q := 12) d_X12_firstRepeat_9 rfl fl_X12_125 (hx sx_80) rfl ?_
  refine sm_icmp_ge (q := 15) (t := 43) d_X12_firstRepeat_12 rfl rfl (fun c1 => ?_) (fun c1 => ?_)
  · replace h := sm_it c1 h
    refine sm_iconst (q := 44) d_X12_firstRepeat_43 rfl ci_m1 ?_
    obtain rfl := Option.some.inj h
    exact sm_iret d_X12_firstRepeat_44 rfl rfl rfl rfl
  · replace h := sm_if c1 h
    refine sm_aload_n (q := 16) d_X12_firstRepeat_15 rfl rfl ?_
    refine sm_iload_n (q := 17) d_X12_firstRepeat_16 rfl rfl ?_
    obtain ⟨q2, e2, h⟩ := sm_bd h
    refine sm_callV (q := 20) (d' := 2) [] [.int x1] d_X12_firstRepeat_17 rfl lk_X12_161 (hx sx_80) rfl rfl rfl (Nat.le_of_ble_eq_true rfl) (Nat.le_of_ble_eq_true rfl) (c_X12_shows hx F x1 M _ e2) (st9 := [.int q2.1]) rfl ?_
    refine sm_istore_n (q := 21) (lt := [some (.ref 80), some (.int x1), some (.int q2.1)]) d_X12_firstRepeat_20 rfl (Nat.le_of_ble_eq_true rfl) rfl rfl ?_
    refine sm_iload_n (q := 22) d_X12_firstRepeat_21 rfl rfl ?_
    refine sm_iconst (q := 23) d_X12_firstRepeat_22 rfl ci_m1 ?_
    refine sm_icmp_eq (q := 26) (t := 37) d_X12_firstRepeat_23 rfl rfl (fun c3 => ?_) (fun c3 => ?_)
    · replace h := sm_it c3 h
      refine sm_fg [2] ?_
      exact j_X12_firstRepeat_37 hx F kb7 hkb7 x1 q2.2 _ h
    · replace h := sm_if c3 h
      refine sm_aload_n (q := 27) d_X12_firstRepeat_26 rfl rfl ?_
      refine sm_iload_n (q := 28) d_X12_firstRepeat_27 rfl rfl ?_
      obtain ⟨q4, e4, h⟩ := sm_bd h
      refine sm_callV (q := 31) (d' := 3) [] [.int q2.1] d_X12_firstRepeat_28 rfl lk_X12_166 (hx sx_80) rfl rfl rfl (Nat.le_of_ble_eq_true rfl) (Nat.le_of_ble_eq_true rfl) (c_X12_firstWith hx F q2.1 q2.2 _ e4) (st9 := [.int q4.1]) rfl ?_
      refine sm_iload_n (q := 32) d_X12_firstRepeat_31 rfl rfl ?_
      refine sm_icmp_ge (q := 35) (t := 37) d_X12_firstRepeat_32 rfl rfl (fun c5 => ?_) (fun c5 => ?_)
      · replace h := sm_it c5 h
        refine sm_fg [2] ?_
        exact j_X12_firstRepeat_37 hx F kb7 hkb7 x1 q4.2 _ h
      · replace h := sm_if c5 h
        refine sm_iload_n (q := 36) d_X12_firstRepeat_35 rfl rfl ?_
        obtain rfl := Option.some.inj h
        exact sm_iret d_X12_firstRepeat_36 rfl rfl rfl rfl
def f_X12_firstRepeat_7 (F : Nat) (n : Nat) : Int32 → sm_M → Option (Int32 × sm_M) := match n with
 | 0 => fun _ _ => none
 | n + 1 => f_X12_firstRepeat_7b F (f_X12_firstRepeat_7 F n)
theorem j_X12_firstRepeat_7 {sk : List sm_Sh} (hx : sm_ext skM sk) (F : Nat) : ∀ (n : Nat) (x1 : Int32) (M : sm_M) (r : Int32 × sm_M), f_X12_firstRepeat_7 F n x1 M = some r → sm_J (md_X12_firstRepeat, 4, sk, .inl (some (.int r.1)), r.2) 7 [some (.ref 80), some (.int x1), none] [] M := by
  intro n
  induction n with
  | zero => intro x1  M r h; exact nomatch (show (none : Option (Int32 × sm_M)) = some r from h)
  | succ n ih => exact j_X12_firstRepeat_7b hx F (f_X12_firstRepeat_7 F n) ih
def f_X12_firstRepeat (F : Nat) (M : sm_M) : Option (Int32 × sm_M) := f_X12_firstRepeat_7 F F (0 : Int32) ((sm_mi M 80 0 (0 : Int32)))
set_option maxRecDepth 100000 in
set_option maxHeartbeats 4000000 in
theorem j_X12_firstRepeat {sk : List sm_Sh} (hx : sm_ext skM sk) (F : Nat) : ∀ (M : sm_M) (r : Int32 × sm_M), f_X12_firstRepeat F M = some r → sm_J (md_X12_firstRepeat, 4, sk, .inl (some (.int r.1)), r.2) 0 [some (.ref 80), none, none] [] M := by
  intro   M r h
  unfold f_X12_firstRepeat at h
  refine sm_aload_n (q := 1) d_X12_firstRepeat_0 rfl rfl ?_
  refine sm_iconst (q := 2) d_X12_firstRepeat_1 rfl ci_0 ?_
  refine sm_puti (q := 5) d_X12_firstRepeat_2 rfl fw_X12_1 (hx sx_80) rfl rfl rfl ?_
  refine sm_iconst (q := 6) d_X12_firstRepeat_5 rfl ci_0 ?_
  refine sm_istore_n (q := 7) (lt := [some (.ref 80), some (.int (0 : Int32)), none]) d_X12_firstRepeat_6 rfl (Nat.le_of_ble_eq_true rfl) rfl rfl ?_
  exact j_X12_firstRepeat_7 hx F F (0 : Int32) ((sm_mi M 80 0 (0 : Int32))) _ h
theorem c_X12_firstRepeat {sk : List sm_Sh} (hx : sm_ext skM sk) (F : Nat) (M : sm_M) (r : Int32 × sm_M) (h : f_X12_firstRepeat F M = some r) : sm_Ct yX12_firstRepeat md_X12_firstRepeat 4 sk [.ref 80] M (.inl (some (.int r.1))) r.2 := sm_enter 2 pn_X12 rfl (Nat.le_of_ble_eq_true rfl) rfl (j_X12_firstRepeat hx F M r h)
/-! UniversalCyclesModel.firstMissing()I -/
theorem d_X12_firstMissing_0 : decode cX12_firstMissing 0 = .ok (.aload_n 0, 1) := by decide +kernel
theorem d_X12_firstMissing_1 : decode cX12_firstMissing 1 = .ok (.iconst 0, 1) := by decide +kernel
theorem d_X12_firstMissing_2 : decode cX12_firstMissing 2 = .ok (.putfield 1, 3) := by decide +kernel
theorem d_X12_firstMissing_5 : decode cX12_firstMissing 5 = .ok (.iconst 0, 1) := by decide +kernel
theorem d_X12_firstMissing_6 : decode cX12_firstMissing 6 = .ok (.istore_n 1, 1) := by decide +kernel
theorem d_X12_firstMissing_7 : decode cX12_firstMissing 7 = .ok (.iload_n 1, 1) := by decide +kernel
theorem d_X12_firstMissing_8 : decode cX12_firstMissing 8 = .ok (.aload_n 0, 1) := by decide +kernel
theorem d_X12_firstMissing_9 : decode cX12_firstMissing 9 = .ok (.getfield 97, 3) := by decide +kernel
theorem d_X12_firstMissing_12 : decode cX12_firstMissing 12 = .ok (.if_icmp .ge 20, 3) := by decide +kernel
theorem d_X12_firstMissing_15 : decode cX12_firstMissing 15 = .ok (.aload_n 0, 1) := by decide +kernel
theorem d_X12_firstMissing_16 : decode cX12_firstMissing 16 = .ok (.iload_n 1, 1) := by decide +kernel
theorem d_X12_firstMissing_17 : decode cX12_firstMissing 17 = .ok (.invokevirtual 166, 3) := by decide +kernel
theorem d_X12_firstMissing_20 : decode cX12_firstMissing 20 = .ok (.iconst (-1), 1) := by decide +kernel
theorem d_X12_firstMissing_21 : decode cX12_firstMissing 21 = .ok (.if_icmp .ne 5, 3) := by decide +kernel
theorem d_X12_firstMissing_24 : decode cX12_firstMissing 24 = .ok (.iload_n 1, 1) := by decide +kernel
theorem d_X12_firstMissing_25 : decode cX12_firstMissing 25 = .ok (.ireturn, 1) := by decide +kernel
theorem d_X12_firstMissing_26 : decode cX12_firstMissing 26 = .ok (.iinc 1 1, 3) := by decide +kernel
theorem d_X12_firstMissing_29 : decode cX12_firstMissing 29 = .ok (.goto (-22), 3) := by decide +kernel
theorem d_X12_firstMissing_32 : decode cX12_firstMissing 32 = .ok (.iconst (-1), 1) := by decide +kernel
theorem d_X12_firstMissing_33 : decode cX12_firstMissing 33 = .ok (.ireturn, 1) := by decide +kernel
def f_X12_firstMissing_7b (F : Nat) (kb7 : Int32 → sm_M → Option (Int32 × sm_M)) (x1 : Int32) (M : sm_M) : Option (Int32 × sm_M) := if (M.1 80 5) ≤ x1 then (some ((-1 : Int32), M)) else ((f_X12_firstWith F x1 M).bind fun q2 => if q2.1 = (-1 : Int32) then (some (x1, q2.2)) else (kb7 (x1 + 1) q2.2))
set_option maxRecDepth 100000 in
set_option maxHeartbeats 4000000 in
theorem j_X12_firstMissing_7b {sk : List sm_Sh} (hx : sm_ext skM sk) (F : Nat) (kb7 : Int32 → sm_M → Option (Int32 × sm_M)) (hkb7 : ∀ (x1 : Int32) (M : sm_M) (r : Int32 × sm_M), kb7 x1 M = some r → sm_J (md_X12_firstMissing, 4, sk, .inl (some (.int r.1)), r.2) 7 [some (.ref 80), some (.int x1)] [] M) : ∀ (x1 : Int32) (M : sm_M) (r : Int32 × sm_M), f_X12_firstMissing_7b F kb7 x1 M = some r → sm_J (md_X12_firstMissing, 4, sk, .inl (some (.int r.1)), r.2) 7 [some (.ref 80), some (.int x1)] [] M := by
  intro x1  M r h
  unfold f_X12_firstMissing_7b at h
  refine sm_iload_n (q := 8) d_X12_firstMissing_7 rfl rfl ?_
  refine sm_aload_n (q := 9) d_X12_firstMissing_8 rfl rfl ?_
  refine sm_geti (q := 12) d_X12_firstMissing_9 rfl fl_X12_97 (hx sx_80) rfl ?_
  refine sm_icmp_ge (q := 15) (t := 32) d_X12_firstMissing_12 rfl rfl (fun c1 => ?_) (fun c1 => ?_)
  · replace h := sm_it c1 h
    refine sm_iconst (q := 33) d_X12_firstMissing_32 rfl ci_m1 ?_
    obtain rfl := Option.some.inj h
    exact sm_iret d_X12_firstMissing_33 rfl rfl rfl rfl
  · replace h := sm_if c1 h
    refine sm_aload_n (q := 16) d_X12_firstMissing_15 rfl rfl ?_
    refine sm_iload_n (q := 17) d_X12_firstMissing_16 rfl rfl ?_
    obtain ⟨q2, e2, h⟩ := sm_bd h
    refine sm_callV (q := 20) (d' := 3) [] [.int x1] d_X12_firstMissing_17 rfl lk_X12_166 (hx sx_80) rfl rfl rfl (Nat.le_of_ble_eq_true rfl) (Nat.le_of_ble_eq_true rfl) (c_X12_firstWith hx F x1 M _ e2) (st9 := [.int q2.1]) rfl ?_
    refine sm_iconst (q := 21) d_X12_firstMissing_20 rfl ci_m1 ?_
    refine sm_icmp_ne (q := 24) (t := 26) d_X12_firstMissing_21 rfl rfl (fun c3 => ?_) (fun c3 => ?_)
    · replace h := sm_if c3 h
      refine sm_iinc (q := 29) (v := (x1 + 1)) (lt := [some (.ref 80), some (.int (x1 + 1))]) d_X12_firstMissing_26 rfl rfl (ii_1 _) (Nat.le_of_ble_eq_true rfl) rfl rfl ?_
      refine sm_goto (t := 7) d_X12_firstMissing_29 rfl ?_
      exact hkb7 (x1 + 1) q2.2 _ h
    · replace h := sm_it c3 h
      refine sm_iload_n (q := 25) d_X12_firstMissing_24 rfl rfl ?_
      obtain rfl := Option.some.inj h
      exact sm_iret d_X12_firstMissing_25 rfl rfl rfl rfl
def f_X12_firstMissing_7 (F : Nat) (n : Nat) : Int32 → sm_M → Option (Int32 × sm_M) := match n with
 | 0 => fun _ _ => none
 | n + 1 => f_X12_firstMissing_7b F (f_X12_firstMissing_7 F n)
theorem j_X12_firstMissing_7 {sk : List sm_Sh} (hx : sm_ext skM sk) (F : Nat) : ∀ (n : Nat) (x1 : Int32) (M : sm_M) (r : Int32 × sm_M), f_X12_firstMissing_7 F n x1 M = some r → sm_J (md_X12_firstMissing, 4, sk, .inl (some (.int r.1)), r.2) 7 [some (.ref 80), some (.int x1)] [] M := by
  intro n
  induction n with
  | zero => intro x1  M r h; exact nomatch (show (none : Option (Int32 × sm_M)) = some r from h)
  | succ n ih => exact j_X12_firstMissing_7b hx F (f_X12_firstMissing_7 F n) ih
def f_X12_firstMissing (F : Nat) (M : sm_M) : Option (Int32 × sm_M) := f_X12_firstMissing_7 F F (0 : Int32) ((sm_mi M 80 0 (0 : Int32)))
set_option maxRecDepth 100000 in
set_option maxHeartbeats 4000000 in
theorem j_X12_firstMissing {sk : List sm_Sh} (hx : sm_ext skM sk) (F : Nat) : ∀ (M : sm_M) (r : Int32 × sm_M), f_X12_firstMissing F M = some r → sm_J (md_X12_firstMissing, 4, sk, .inl (some (.int r.1)), r.2) 0 [some (.ref 80), none] [] M := by
  intro   M r h
  unfold f_X12_firstMissing at h
  refine sm_aload_n (q := 1) d_X12_firstMissing_0 rfl rfl ?_
  refine sm_iconst (q := 2) d_X12_firstMissing_1 rfl ci_0 ?_
  refine sm_puti (q := 5) d_X12_firstMissing_2 rfl fw_X12_1 (hx sx_80) rfl rfl rfl ?_
  refine sm_iconst (q := 6) d_X12_firstMissing_5 rfl ci_0 ?_
  refine sm_istore_n (q := 7) (lt := [some (.ref 80), some (.int (0 : Int32))]) d_X12_firstMissing_6 rfl (Nat.le_of_ble_eq_true rfl) rfl rfl ?_
  exact j_X12_firstMissing_7 hx F F (0 : Int32) ((sm_mi M 80 0 (0 : Int32))) _ h
theorem c_X12_firstMissing {sk : List sm_Sh} (hx : sm_ext skM sk) (F : Nat) (M : sm_M) (r : Int32 × sm_M) (h : f_X12_firstMissing F M = some r) : sm_Ct yX12_firstMissing md_X12_firstMissing 4 sk [.ref 80] M (.inl (some (.int r.1))) r.2 := sm_enter 1 pn_X12 rfl (Nat.le_of_ble_eq_true rfl) rfl (j_X12_firstMissing hx F M r h)
/-! UniversalCyclesModel.isUniversal()Z -/
theorem d_X12_isUniversal_0 : decode cX12_isUniversal 0 = .ok (.aload_n 0, 1) := by decide +kernel
theorem d_X12_isUniversal_1 : decode cX12_isUniversal 1 = .ok (.iconst 0, 1) := by decide +kernel
theorem d_X12_isUniversal_2 : decode cX12_isUniversal 2 = .ok (.putfield 1, 3) := by decide +kernel
theorem d_X12_isUniversal_5 : decode cX12_isUniversal 5 = .ok (.aload_n 0, 1) := by decide +kernel
theorem d_X12_isUniversal_6 : decode cX12_isUniversal 6 = .ok (.getfield 125, 3) := by decide +kernel
theorem d_X12_isUniversal_9 : decode cX12_isUniversal 9 = .ok (.aload_n 0, 1) := by decide +kernel
theorem d_X12_isUniversal_10 : decode cX12_isUniversal 10 = .ok (.getfield 97, 3) := by decide +kernel
theorem d_X12_isUniversal_13 : decode cX12_isUniversal 13 = .ok (.if_icmp .ne 24, 3) := by decide +kernel
theorem d_X12_isUniversal_16 : decode cX12_isUniversal 16 = .ok (.aload_n 0, 1) := by decide +kernel
theorem d_X12_isUniversal_17 : decode cX12_isUniversal 17 = .ok (.iconst (-1), 1) := by decide +kernel
theorem d_X12_isUniversal_18 : decode cX12_isUniversal 18 = .ok (.invokevirtual 166, 3) := by decide +kernel
theorem d_X12_isUniversal_21 : decode cX12_isUniversal 21 = .ok (.iconst (-1), 1) := by decide +kernel
theorem d_X12_isUniversal_22 : decode cX12_isUniversal 22 = .ok (.if_icmp .ne 15, 3) := by decide +kernel
theorem d_X12_isUniversal_25 : decode cX12_isUniversal 25 = .ok (.aload_n 0, 1) := by decide +kernel
theorem d_X12_isUniversal_26 : decode cX12_isUniversal 26 = .ok (.invokevirtual 169, 3) := by decide +kernel
theorem d_X12_isUniversal_29 : decode cX12_isUniversal 29 = .ok (.iconst (-1), 1) := by decide +kernel
theorem d_X12_isUniversal_30 : decode cX12_isUniversal 30 = .ok (.if_icmp .ne 7, 3) := by decide +kernel
theorem d_X12_isUniversal_33 : decode cX12_isUniversal 33 = .ok (.iconst 1, 1) := by decide +kernel
theorem d_X12_isUniversal_34 : decode cX12_isUniversal 34 = .ok (.goto 4, 3) := by decide +kernel
theorem d_X12_isUniversal_37 : decode cX12_isUniversal 37 = .ok (.iconst 0, 1) := by decide +kernel
theorem d_X12_isUniversal_38 : decode cX12_isUniversal 38 = .ok (.ireturn, 1) := by decide +kernel
def f_X12_isUniversal_38 (F : Nat) (y0 : Int32) (M : sm_M) : Option (Int32 × sm_M) := sm_g (sm_nar .boolean y0) (some (y0, M))
set_option maxRecDepth 100000 in
set_option maxHeartbeats 4000000 in
theorem j_X12_isUniversal_38 {sk : List sm_Sh} (hx : sm_ext skM sk) (F : Nat) : ∀ (y0 : Int32) (M : sm_M) (r : Int32 × sm_M), f_X12_isUniversal_38 F y0 M = some r → sm_J (md_X12_isUniversal, 5, sk, .inl (some (.int r.1)), r.2) 38 [none] [.int y0] M := by
  intro y0  M r h
  unfold f_X12_isUniversal_38 at h
  obtain ⟨g1, h⟩ := sm_gt h
  obtain rfl := Option.some.inj h
  exact sm_iret d_X12_isUniversal_38 rfl (sm_nar_of g1).1 rfl rfl
def f_X12_isUniversal_37 (F : Nat) (M : sm_M) : Option (Int32 × sm_M) := f_X12_isUniversal_38 F (0 : Int32) M
set_option maxRecDepth 100000 in
set_option maxHeartbeats 4000000 in
theorem j_X12_isUniversal_37 {sk : List sm_Sh} (hx : sm_ext skM sk) (F : Nat) : ∀ (M : sm_M) (r : Int32 × sm_M), f_X12_isUniversal_37 F M = some r → sm_J (md_X12_isUniversal, 5, sk, .inl (some (.int r.1)), r.2) 37 [none] [] M := by
  intro   M r h
  unfold f_X12_isUniversal_37 at h
  refine sm_iconst (q := 38) d_X12_isUniversal_37 rfl ci_0 ?_
  exact j_X12_isUniversal_38 hx F (0 : Int32) M _ h
def f_X12_isUniversal (F : Nat) (M : sm_M) : Option (Int32 × sm_M) := if (((sm_mi M 80 0 (0 : Int32))).1 80 12) = (((sm_mi M 80 0 (0 : Int32))).1 80 5) then ((f_X12_firstWith F (-1 : Int32) (sm_mi M 80 0 (0 : Int32))).bind fun q2 => if q2.1 = (-1 : Int32) then ((f_X12_firstMissing F q2.2).bind fun q4 => if q4.1 = (-1 : Int32) then (f_X12_isUniversal_38 F (1 : Int32) q4.2) else (f_X12_isUniversal_37 F q4.2)) else (f_X12_isUniversal_37 F q2.2)) else (f_X12_isUniversal_37 F ((sm_mi M 80 0 (0 : Int32))))
set_option maxRecDepth 100000 in
set_option maxHeartbeats 4000000 in
theorem j_X12_isUniversal {sk : List sm_Sh} (hx : sm_ext skM sk) (F : Nat) : ∀ (M : sm_M) (r : Int32 × sm_M), f_X12_isUniversal F M = some r → sm_J (md_X12_isUniversal, 5, sk, .inl (some (.int r.1)), r.2) 0 [some (.ref 80)] [] M := by
  intro   M r h
  unfold f_X12_isUniversal at h
  refine sm_aload_n (q := 1) d_X12_isUniversal_0 rfl rfl ?_
  refine sm_iconst (q := 2) d_X12_isUniversal_1 rfl ci_0 ?_
  refine sm_puti (q := 5) d_X12_isUniversal_2 rfl fw_X12_1 (hx sx_80) rfl rfl rfl ?_
  refine sm_aload_n (q := 6) d_X12_isUniversal_5 rfl rfl ?_
  refine sm_geti (q := 9) d_X12_isUniversal_6 rfl fl_X12_125 (hx sx_80) rfl ?_
  refine sm_aload_n (q := 10) d_X12_isUniversal_9 rfl rfl ?_
  refine sm_geti (q := 13) d_X12_isUniversal_10 rfl fl_X12_97 (hx sx_80) rfl ?_
  refine sm_icmp_ne (q := 16) (t := 37) d_X12_isUniversal_13 rfl rfl (fun c1 => ?_) (fun c1 => ?_)
  · replace h := sm_if c1 h
    refine sm_fg [0] ?_
    exact j_X12_isUniversal_37 hx F ((sm_mi M 80 0 (0 : Int32))) _ h
  · replace h := sm_it c1 h
    refine sm_aload_n (q := 17) d_X12_isUniversal_16 rfl rfl ?_
    refine sm_iconst (q := 18) d_X12_isUniversal_17 rfl ci_m1 ?_
    obtain ⟨q2, e2, h⟩ := sm_bd h
    refine sm_callV (q := 21) (d' := 3) [] [.int (-1 : Int32)] d_X12_isUniversal_18 rfl lk_X12_166 (hx sx_80) rfl rfl rfl (Nat.le_of_ble_eq_true rfl) (Nat.le_of_ble_eq_true rfl) (c_X12_firstWith hx F (-1 : Int32) (sm_mi M 80 0 (0 : Int32)) _ e2) (st9 := [.int q2.1]) rfl ?_
    refine sm_iconst (q := 22) d_X12_isUniversal_21 rfl ci_m1 ?_
    refine sm_icmp_ne (q := 25) (t := 37) d_X12_isUniversal_22 rfl rfl (fun c3 => ?_) (fun c3 => ?_)
    · replace h := sm_if c3 h
      refine sm_fg [0] ?_
      exact j_X12_isUniversal_37 hx F q2.2 _ h
    · replace h := sm_it c3 h
      refine sm_aload_n (q := 26) d_X12_isUniversal_25 rfl rfl ?_
      obtain ⟨q4, e4, h⟩ := sm_bd h
      refine sm_callV (q := 29) (d' := 4) [] [] d_X12_isUniversal_26 rfl lk_X12_169 (hx sx_80) rfl rfl rfl (Nat.le_of_ble_eq_true rfl) (Nat.le_of_ble_eq_true rfl) (c_X12_firstMissing hx F q2.2 _ e4) (st9 := [.int q4.1]) rfl ?_
      refine sm_iconst (q := 30) d_X12_isUniversal_29 rfl ci_m1 ?_
      refine sm_icmp_ne (q := 33) (t := 37) d_X12_isUniversal_30 rfl rfl (fun c5 => ?_) (fun c5 => ?_)
      · replace h := sm_if c5 h
        refine sm_fg [0] ?_
        exact j_X12_isUniversal_37 hx F q4.2 _ h
      · replace h := sm_it c5 h
        refine sm_iconst (q := 34) d_X12_isUniversal_33 rfl ci_1 ?_
        refine sm_goto (t := 38) d_X12_isUniversal_34 rfl ?_
        refine sm_fg [0] ?_
        exact j_X12_isUniversal_38 hx F (1 : Int32) q4.2 _ h
theorem c_X12_isUniversal {sk : List sm_Sh} (hx : sm_ext skM sk) (F : Nat) (M : sm_M) (r : Int32 × sm_M) (h : f_X12_isUniversal F M = some r) : sm_Ct yX12_isUniversal md_X12_isUniversal 5 sk [.ref 80] M (.inl (some (.int r.1))) r.2 := sm_enter 0 pn_X12 rfl (Nat.le_of_ble_eq_true rfl) rfl (j_X12_isUniversal hx F M r h)
/-! UniversalCyclesModel.shownBits(I)J -/
theorem d_X12_shownBits_0 : decode cX12_shownBits 0 = .ok (.aload_n 0, 1) := by decide +kernel
theorem d_X12_shownBits_1 : decode cX12_shownBits 1 = .ok (.iconst 0, 1) := by decide +kernel
theorem d_X12_shownBits_2 : decode cX12_shownBits 2 = .ok (.putfield 1, 3) := by decide +kernel
theorem d_X12_shownBits_5 : decode cX12_shownBits 5 = .ok (.iload_n 1, 1) := by decide +kernel
theorem d_X12_shownBits_6 : decode cX12_shownBits 6 = .ok (.iconst 0, 1) := by decide +kernel
theorem d_X12_shownBits_7 : decode cX12_shownBits 7 = .ok (.iconst 3, 1) := by decide +kernel
theorem d_X12_shownBits_8 : decode cX12_shownBits 8 = .ok (.invokestatic 115, 3) := by decide +kernel
theorem d_X12_shownBits_11 : decode cX12_shownBits 11 = .ok (.ifCond .ne 10, 3) := by decide +kernel
theorem d_X12_shownBits_14 : decode cX12_shownBits 14 = .ok (.aload_n 0, 1) := by decide +kernel
theorem d_X12_shownBits_15 : decode cX12_shownBits 15 = .ok (.iconst 1, 1) := by decide +kernel
theorem d_X12_shownBits_16 : decode cX12_shownBits 16 = .ok (.invokevirtual 122, 3) := by decide +kernel
theorem d_X12_shownBits_19 : decode cX12_shownBits 19 = .ok (.i2l, 1) := by decide +kernel
theorem d_X12_shownBits_20 : decode cX12_shownBits 20 = .ok (.lreturn, 1) := by decide +kernel
theorem d_X12_shownBits_21 : decode cX12_shownBits 21 = .ok (.lconst 0, 1) := by decide +kernel
theorem d_X12_shownBits_22 : decode cX12_shownBits 22 = .ok (.lstore_n 2, 1) := by decide +kernel
theorem d_X12_shownBits_23 : decode cX12_shownBits 23 = .ok (.iconst 0, 1) := by decide +kernel
theorem d_X12_shownBits_24 : decode cX12_shownBits 24 = .ok (.istore 4, 2) := by decide +kernel
theorem d_X12_shownBits_26 : decode cX12_shownBits 26 = .ok (.iload 4, 2) := by decide +kernel
theorem d_X12_shownBits_28 : decode cX12_shownBits 28 = .ok (.aload_n 0, 1) := by decide +kernel
theorem d_X12_shownBits_29 : decode cX12_shownBits 29 = .ok (.getfield 125, 3) := by decide +kernel
theorem d_X12_shownBits_32 : decode cX12_shownBits 32 = .ok (.if_icmp .ge 54, 3) := by decide +kernel
theorem d_X12_shownBits_35 : decode cX12_shownBits 35 = .ok (.aload_n 0, 1) := by decide +kernel
theorem d_X12_shownBits_36 : decode cX12_shownBits 36 = .ok (.iload 4, 2) := by decide +kernel
theorem d_X12_shownBits_38 : decode cX12_shownBits 38 = .ok (.invokevirtual 161, 3) := by decide +kernel
theorem d_X12_shownBits_41 : decode cX12_shownBits 41 = .ok (.bipush 50, 2) := by decide +kernel
theorem d_X12_shownBits_43 : decode cX12_shownBits 43 = .ok (.iload_n 1, 1) := by decide +kernel
theorem d_X12_shownBits_44 : decode cX12_shownBits 44 = .ok (.imul, 1) := by decide +kernel
theorem d_X12_shownBits_45 : decode cX12_shownBits 45 = .ok (.isub, 1) := by decide +kernel
theorem d_X12_shownBits_46 : decode cX12_shownBits 46 = .ok (.istore 5, 2) := by decide +kernel
theorem d_X12_shownBits_48 : decode cX12_shownBits 48 = .ok (.lload_n 2, 1) := by decide +kernel
theorem d_X12_shownBits_49 : decode cX12_shownBits 49 = .ok (.aload_n 0, 1) := by decide +kernel
theorem d_X12_shownBits_50 : decode cX12_shownBits 50 = .ok (.iload 4, 2) := by decide +kernel
theorem d_X12_shownBits_52 : decode cX12_shownBits 52 = .ok (.invokevirtual 161, 3) := by decide +kernel
theorem d_X12_shownBits_55 : decode cX12_shownBits 55 = .ok (.iconst (-1), 1) := by decide +kernel
theorem d_X12_shownBits_56 : decode cX12_shownBits 56 = .ok (.if_icmp .eq 21, 3) := by decide +kernel
theorem d_X12_shownBits_59 : decode cX12_shownBits 59 = .ok (.iload 5, 2) := by decide +kernel
theorem d_X12_shownBits_61 : decode cX12_shownBits 61 = .ok (.iconst 0, 1) := by decide +kernel
theorem d_X12_shownBits_62 : decode cX12_shownBits 62 = .ok (.bipush 49, 2) := by decide +kernel
theorem d_X12_shownBits_64 : decode cX12_shownBits 64 = .ok (.invokestatic 115, 3) := by decide +kernel
theorem d_X12_shownBits_67 : decode cX12_shownBits 67 = .ok (.ifCond .eq 10, 3) := by decide +kernel
theorem d_X12_shownBits_70 : decode cX12_shownBits 70 = .ok (.lconst 1, 1) := by decide +kernel
theorem d_X12_shownBits_71 : decode cX12_shownBits 71 = .ok (.iload 5, 2) := by decide +kernel
theorem d_X12_shownBits_73 : decode cX12_shownBits 73 = .ok (.lshl, 1) := by decide +kernel
theorem d_X12_shownBits_74 : decode cX12_shownBits 74 = .ok (.goto 4, 3) := by decide +kernel
theorem d_X12_shownBits_77 : decode cX12_shownBits 77 = .ok (.lconst 0, 1) := by decide +kernel
theorem d_X12_shownBits_78 : decode cX12_shownBits 78 = .ok (.lor, 1) := by decide +kernel
theorem d_X12_shownBits_79 : decode cX12_shownBits 79 = .ok (.lstore_n 2, 1) := by decide +kernel
theorem d_X12_shownBits_80 : decode cX12_shownBits 80 = .ok (.iinc 4 1, 3) := by decide +kernel
theorem d_X12_shownBits_83 : decode cX12_shownBits 83 = .ok (.goto (-57), 3) := by decide +kernel
theorem d_X12_shownBits_86 : decode cX12_shownBits 86 = .ok (.lload_n 2, 1) := by decide +kernel
theorem d_X12_shownBits_87 : decode cX12_shownBits 87 = .ok (.lreturn, 1) := by decide +kernel
def f_X12_shownBits_78 (F : Nat) (kb26 : Int32 → Int64 → Int32 → sm_M → Option (Int64 × sm_M)) (x1 : Int32) (x4 : Int32) (y0 : Int64) (y1 : Int64) (M : sm_M) : Option (Int64 × sm_M) := kb26 x1 (y0 ||| y1) (x4 + 1) M
set_option maxRecDepth 100000 in
set_option maxHeartbeats 4000000 in
theorem j_X12_shownBits_78 {sk : List sm_Sh} (hx : sm_ext skM sk) (F : Nat) (kb26 : Int32 → Int64 → Int32 → sm_M → Option (Int64 × sm_M)) (hkb26 : ∀ (x1 : Int32) (x2 : Int64) (x4 : Int32) (M : sm_M) (r : Int64 × sm_M), kb26 x1 x2 x4 M = some r → sm_J (md_X12_shownBits, 3, sk, .inl (some (.long r.1)), r.2) 26 [some (.ref 80), some (.int x1), some (.long x2), none, some (.int x4), none] [] M) : ∀ (x1 : Int32) (x4 : Int32) (y0 : Int64) (y1 : Int64) (M : sm_M) (r : Int64 × sm_M), f_X12_shownBits_78 F kb26 x1 x4 y0 y1 M = some r → sm_J (md_X12_shownBits, 3, sk, .inl (some (.long r.1)), r.2) 78 [some (.ref 80), some (.int x1), none, none, some (.int x4), none] [.long y1, .long y0] M := by
  intro x1 x4 y0 y1  M r h
  unfold f_X12_shownBits_78 at h
  refine sm_lor (q := 79) d_X12_shownBits_78 rfl ?_
  refine sm_lstore_n (q := 80) (lt := [some (.ref 80), some (.int x1), some (.long (y0 ||| y1)), none, some (.int x4), none]) d_X12_shownBits_79 rfl (Nat.le_of_ble_eq_true rfl) rfl rfl ?_
  refine sm_iinc (q := 83) (v := (x4 + 1)) (lt := [some (.ref 80), some (.int x1), some (.long (y0 ||| y1)), none, some (.int (x4 + 1)), none]) d_X12_shownBits_80 rfl rfl (ii_1 _) (Nat.le_of_ble_eq_true rfl) rfl rfl ?_
  refine sm_goto (t := 26) d_X12_shownBits_83 rfl ?_
  exact hkb26 x1 (y0 ||| y1) (x4 + 1) M _ h
def f_X12_shownBits_77 (F : Nat) (kb26 : Int32 → Int64 → Int32 → sm_M → Option (Int64 × sm_M)) (x1 : Int32) (x4 : Int32) (y0 : Int64) (M : sm_M) : Option (Int64 × sm_M) := f_X12_shownBits_78 F kb26 x1 x4 y0 (0 : Int64) M
set_option maxRecDepth 100000 in
set_option maxHeartbeats 4000000 in
theorem j_X12_shownBits_77 {sk : List sm_Sh} (hx : sm_ext skM sk) (F : Nat) (kb26 : Int32 → Int64 → Int32 → sm_M → Option (Int64 × sm_M)) (hkb26 : ∀ (x1 : Int32) (x2 : Int64) (x4 : Int32) (M : sm_M) (r : Int64 × sm_M), kb26 x1 x2 x4 M = some r → sm_J (md_X12_shownBits, 3, sk, .inl (some (.long r.1)), r.2) 26 [some (.ref 80), some (.int x1), some (.long x2), none, some (.int x4), none] [] M) : ∀ (x1 : Int32) (x4 : Int32) (y0 : Int64) (M : sm_M) (r : Int64 × sm_M), f_X12_shownBits_77 F kb26 x1 x4 y0 M = some r → sm_J (md_X12_shownBits, 3, sk, .inl (some (.long r.1)), r.2) 77 [some (.ref 80), some (.int x1), none, none, some (.int x4), none] [.long y0] M := by
  intro x1 x4 y0  M r h
  unfold f_X12_shownBits_77 at h
  refine sm_lconst (q := 78) d_X12_shownBits_77 rfl cl_0 ?_
  exact j_X12_shownBits_78 hx F kb26 hkb26 x1 x4 y0 (0 : Int64) M _ h
def f_X12_shownBits_26b (F : Nat) (kb26 : Int32 → Int64 → Int32 → sm_M → Option (Int64 × sm_M)) (x1 : Int32) (x2 : Int64) (x4 : Int32) (M : sm_M) : Option (Int64 × sm_M) := if (M.1 80 12) ≤ x4 then (some (x2, M)) else ((f_X12_shows F x4 M).bind fun q2 => (f_X12_shows F x4 q2.2).bind fun q3 => if q3.1 = (-1 : Int32) then (f_X12_shownBits_77 F kb26 x1 x4 x2 q3.2) else ((f_X12_isIn F (q2.1 - ((50 : Int32) * x1)) (0 : Int32) (49 : Int32) q3.2).bind fun q5 => if q5 = 0 then (f_X12_shownBits_77 F kb26 x1 x4 x2 q3.2) else (f_X12_shownBits_78 F kb26 x1 x4 x2 ((1 : Int64) <<< ((q2.1 - ((50 : Int32) * x1)).toInt64 &&& 63)) q3.2)))
set_option maxRecDepth 100000 in
set_option maxHeartbeats 4000000 in
theorem j_X12_shownBits_26b {sk : List sm_Sh} (hx : sm_ext skM sk) (F : Nat) (kb26 : Int32 → Int64 → Int32 → sm_M → Option (Int64 × sm_M)) (hkb26 : ∀ (x1 : Int32) (x2 : Int64) (x4 : Int32) (M : sm_M) (r : Int64 × sm_M), kb26 x1 x2 x4 M = some r → sm_J (md_X12_shownBits, 3, sk, .inl (some (.long r.1)), r.2) 26 [some (.ref 80), some (.int x1), some (.long x2), none, some (.int x4), none] [] M) : ∀ (x1 : Int32) (x2 : Int64) (x4 : Int32) (M : sm_M) (r : Int64 × sm_M), f_X12_shownBits_26b F kb26 x1 x2 x4 M = some r → sm_J (md_X12_shownBits, 3, sk, .inl (some (.long r.1)), r.2) 26 [some (.ref 80), some (.int x1), some (.long x2), none, some (.int x4), none] [] M := by
  intro x1 x2 x4  M r h
  unfold f_X12_shownBits_26b at h
  refine sm_iload (q := 28) d_X12_shownBits_26 rfl rfl ?_
  refine sm_aload_n (q := 29) d_X12_shownBits_28 rfl rfl ?_
  refine sm_geti (q := 32) d_X12_shownBits_29 rfl fl_X12_125 (hx sx_80) rfl ?_
  refine sm_icmp_ge (q := 35) (t := 86) d_X12_shownBits_32 rfl rfl (fun c1 => ?_) (fun c1 => ?_)
  · replace h := sm_it c1 h
    refine sm_lload_n (q := 87) d_X12_shownBits_86 rfl rfl ?_
    obtain rfl := Option.some.inj h
    exact sm_lret d_X12_shownBits_87 rfl rfl rfl
  · replace h := sm_if c1 h
    refine sm_aload_n (q := 36) d_X12_shownBits_35 rfl rfl ?_
    refine sm_iload (q := 38) d_X12_shownBits_36 rfl rfl ?_
    obtain ⟨q2, e2, h⟩ := sm_bd h
    refine sm_callV (q := 41) (d' := 2) [] [.int x4] d_X12_shownBits_38 rfl lk_X12_161 (hx sx_80) rfl rfl rfl (Nat.le_of_ble_eq_true rfl) (Nat.le_of_ble_eq_true rfl) (c_X12_shows hx F x4 M _ e2) (st9 := [.int q2.1]) rfl ?_
    refine sm_bipush (q := 43) d_X12_shownBits_41 rfl cb_50 ?_
    refine sm_iload_n (q := 44) d_X12_shownBits_43 rfl rfl ?_
    refine sm_imul (q := 45) d_X12_shownBits_44 rfl ?_
    refine sm_isub (q := 46) d_X12_shownBits_45 rfl ?_
    refine sm_istore (q := 48) (lt := [some (.ref 80), some (.int x1), some (.long x2), none, some (.int x4), some (.int (q2.1 - ((50 : Int32) * x1)))]) d_X12_shownBits_46 rfl (Nat.le_of_ble_eq_true rfl) rfl rfl ?_
    refine sm_lload_n (q := 49) d_X12_shownBits_48 rfl rfl ?_
    refine sm_aload_n (q := 50) d_X12_shownBits_49 rfl rfl ?_
    refine sm_iload (q := 52) d_X12_shownBits_50 rfl rfl ?_
    obtain ⟨q3, e3, h⟩ := sm_bd h
    refine sm_callV (q := 55) (d' := 2) [.long x2] [.int x4] d_X12_shownBits_52 rfl lk_X12_161 (hx sx_80) rfl rfl rfl (Nat.le_of_ble_eq_true rfl) (Nat.le_of_ble_eq_true rfl) (c_X12_shows hx F x4 q2.2 _ e3) (st9 := [.int q3.1, .long x2]) rfl ?_
    refine sm_iconst (q := 56) d_X12_shownBits_55 rfl ci_m1 ?_
    refine sm_icmp_eq (q := 59) (t := 77) d_X12_shownBits_56 rfl rfl (fun c4 => ?_) (fun c4 => ?_)
    · replace h := sm_it c4 h
      refine sm_fg [2, 5] ?_
      exact j_X12_shownBits_77 hx F kb26 hkb26 x1 x4 x2 q3.2 _ h
    · replace h := sm_if c4 h
      refine sm_iload (q := 61) d_X12_shownBits_59 rfl rfl ?_
      refine sm_iconst (q := 62) d_X12_shownBits_61 rfl ci_0 ?_
      refine sm_bipush (q := 64) d_X12_shownBits_62 rfl cb_49 ?_
      obtain ⟨q5, e5, h⟩ := sm_bd h
      refine sm_callS (q := 67) (d' := 0) [.long x2] [.int (q2.1 - ((50 : Int32) * x1)), .int (0 : Int32), .int (49 : Int32)] d_X12_shownBits_64 rfl lk_X12_115 rfl (Nat.le_of_ble_eq_true rfl) (Nat.le_of_ble_eq_true rfl) (c_X12_isIn hx F (q2.1 - ((50 : Int32) * x1)) (0 : Int32) (49 : Int32) q3.2 _ e5) (st9 := [.int q5, .long x2]) rfl ?_
      refine sm_if_eq (q := 70) (t := 77) d_X12_shownBits_67 rfl rfl (fun c6 => ?_) (fun c6 => ?_)
      · replace h := sm_it c6 h
        refine sm_fg [2, 5] ?_
        exact j_X12_shownBits_77 hx F kb26 hkb26 x1 x4 x2 q3.2 _ h
      · replace h := sm_if c6 h
        refine sm_lconst (q := 71) d_X12_shownBits_70 rfl cl_1 ?_
        refine sm_iload (q := 73) d_X12_shownBits_71 rfl rfl ?_
        refine sm_lshl (q := 74) d_X12_shownBits_73 rfl ?_
        refine sm_goto (t := 78) d_X12_shownBits_74 rfl ?_
        refine sm_fg [2, 5] ?_
        exact j_X12_shownBits_78 hx F kb26 hkb26 x1 x4 x2 ((1 : Int64) <<< ((q2.1 - ((50 : Int32) * x1)).toInt64 &&& 63)) q3.2 _ h
def f_X12_shownBits_26 (F : Nat) (n : Nat) : Int32 → Int64 → Int32 → sm_M → Option (Int64 × sm_M) := match n with
 | 0 => fun _ _ _ _ => none
 | n + 1 => f_X12_shownBits_26b F (f_X12_shownBits_26 F n)
theorem j_X12_shownBits_26 {sk : List sm_Sh} (hx : sm_ext skM sk) (F : Nat) : ∀ (n : Nat) (x1 : Int32) (x2 : Int64) (x4 : Int32) (M : sm_M) (r : Int64 × sm_M), f_X12_shownBits_26 F n x1 x2 x4 M = some r → sm_J (md_X12_shownBits, 3, sk, .inl (some (.long r.1)), r.2) 26 [some (.ref 80), some (.int x1), some (.long x2), none, some (.int x4), none] [] M := by
  intro n
  induction n with
  | zero => intro x1 x2 x4  M r h; exact nomatch (show (none : Option (Int64 × sm_M)) = some r from h)
  | succ n ih => exact j_X12_shownBits_26b hx F (f_X12_shownBits_26 F n) ih
def f_X12_shownBits (F : Nat) (x1 : Int32) (M : sm_M) : Option (Int64 × sm_M) := (f_X12_isIn F x1 (0 : Int32) (3 : Int32) (sm_mi M 80 0 (0 : Int32))).bind fun q1 => if q1 = 0 then ((f_X12_fail F (1 : Int32) (sm_mi M 80 0 (0 : Int32))).bind fun q3 => some (q3.1.toInt64, q3.2)) else (f_X12_shownBits_26 F F x1 (0 : Int64) (0 : Int32) ((sm_mi M 80 0 (0 : Int32))))
set_option maxRecDepth 100000 in
set_option maxHeartbeats 4000000 in
theorem j_X12_shownBits {sk : List sm_Sh} (hx : sm_ext skM sk) (F : Nat) : ∀ (x1 : Int32) (M : sm_M) (r : Int64 × sm_M), f_X12_shownBits F x1 M = some r → sm_J (md_X12_shownBits, 3, sk, .inl (some (.long r.1)), r.2) 0 [some (.ref 80), some (.int x1), none, none, none, none] [] M := by
  intro x1  M r h
  unfold f_X12_shownBits at h
  refine sm_aload_n (q := 1) d_X12_shownBits_0 rfl rfl ?_
  refine sm_iconst (q := 2) d_X12_shownBits_1 rfl ci_0 ?_
  refine sm_puti (q := 5) d_X12_shownBits_2 rfl fw_X12_1 (hx sx_80) rfl rfl rfl ?_
  refine sm_iload_n (q := 6) d_X12_shownBits_5 rfl rfl ?_
  refine sm_iconst (q := 7) d_X12_shownBits_6 rfl ci_0 ?_
  refine sm_iconst (q := 8) d_X12_shownBits_7 rfl ci_3 ?_
  obtain ⟨q1, e1, h⟩ := sm_bd h
  refine sm_callS (q := 11) (d' := 0) [] [.int x1, .int (0 : Int32), .int (3 : Int32)] d_X12_shownBits_8 rfl lk_X12_115 rfl (Nat.le_of_ble_eq_true rfl) (Nat.le_of_ble_eq_true rfl) (c_X12_isIn hx F x1 (0 : Int32) (3 : Int32) (sm_mi M 80 0 (0 : Int32)) _ e1) (st9 := [.int q1]) rfl ?_
  refine sm_if_ne (q := 14) (t := 21) d_X12_shownBits_11 rfl rfl (fun c2 => ?_) (fun c2 => ?_)
  · replace h := sm_if c2 h
    refine sm_lconst (q := 22) d_X12_shownBits_21 rfl cl_0 ?_
    refine sm_lstore_n (q := 23) (lt := [some (.ref 80), some (.int x1), some (.long (0 : Int64)), none, none, none]) d_X12_shownBits_22 rfl (Nat.le_of_ble_eq_true rfl) rfl rfl ?_
    refine sm_iconst (q := 24) d_X12_shownBits_23 rfl ci_0 ?_
    refine sm_istore (q := 26) (lt := [some (.ref 80), some (.int x1), some (.long (0 : Int64)), none, some (.int (0 : Int32)), none]) d_X12_shownBits_24 rfl (Nat.le_of_ble_eq_true rfl) rfl rfl ?_
    exact j_X12_shownBits_26 hx F F x1 (0 : Int64) (0 : Int32) ((sm_mi M 80 0 (0 : Int32))) _ h
  · replace h := sm_it c2 h
    refine sm_aload_n (q := 15) d_X12_shownBits_14 rfl rfl ?_
    refine sm_iconst (q := 16) d_X12_shownBits_15 rfl ci_1 ?_
    obtain ⟨q3, e3, h⟩ := sm_bd h
    refine sm_callV (q := 19) (d' := 0) [] [.int (1 : Int32)] d_X12_shownBits_16 rfl lk_X12_122 (hx sx_80) rfl rfl rfl (Nat.le_of_ble_eq_true rfl) (Nat.le_of_ble_eq_true rfl) (c_X12_fail hx F (1 : Int32) (sm_mi M 80 0 (0 : Int32)) _ e3) (st9 := [.int q3.1]) rfl ?_
    refine sm_i2l (q := 20) d_X12_shownBits_19 rfl ?_
    obtain rfl := Option.some.inj h
    exact sm_lret d_X12_shownBits_20 rfl rfl rfl
theorem c_X12_shownBits {sk : List sm_Sh} (hx : sm_ext skM sk) (F : Nat) (x1 : Int32) (M : sm_M) (r : Int64 × sm_M) (h : f_X12_shownBits F x1 M = some r) : sm_Ct yX12_shownBits md_X12_shownBits 3 sk [.ref 80, .int x1] M (.inl (some (.long r.1))) r.2 := sm_enter 4 pn_X12 rfl (Nat.le_of_ble_eq_true rfl) rfl (j_X12_shownBits hx F x1 M r h)
