/-! ===== the law's loop ===== -/
def lq_0 (I : sm_M → Prop) : Prop := ∀ (M : sm_M) (x1 x2 x3 : Int32), I M → (lp_r (fun F M => f_X11_setFamily F x1 x2 x3 M) (fun F M => f_X12_setFamily F x1 x2 x3 M) I M ∨ lp_x "java/lang/IllegalArgumentException" 1 (fun F M => f_X11_setFamily F x1 x2 x3 M) (fun F M => f_X12_setFamily F x1 x2 x3 M) I M)
def lq_1 (I : sm_M → Prop) : Prop := ∀ (M : sm_M), I M → (lp_d0 (fun F M => f_X11_elementCount F M) (fun F M => f_X12_elementCount F M) I M)
def lq_2 (I : sm_M → Prop) : Prop := ∀ (M : sm_M) (x1 x2 : Int32), I M → (lp_r (fun F M => f_X11_elementAt F x1 x2 M) (fun F M => f_X12_elementAt F x1 x2 M) I M ∨ lp_x "java/lang/IndexOutOfBoundsException" 1 (fun F M => f_X11_elementAt F x1 x2 M) (fun F M => f_X12_elementAt F x1 x2 M) I M)
def lq_3 (I : sm_M → Prop) : Prop := ∀ (M : sm_M) (x1 : Int32), I M → (lp_r (fun F M => f_X11_append F x1 M) (fun F M => f_X12_append F x1 M) I M ∨ lp_x "java/lang/IllegalArgumentException" 1 (fun F M => f_X11_append F x1 M) (fun F M => f_X12_append F x1 M) I M ∨ lp_x "java/lang/IllegalStateException" 2 (fun F M => f_X11_append F x1 M) (fun F M => f_X12_append F x1 M) I M)
def lq_4 (I : sm_M → Prop) : Prop := ∀ (M : sm_M) (x1 x2 : Int32), I M → (lp_r (fun F M => f_X11_setSymbol F x1 x2 M) (fun F M => f_X12_setSymbol F x1 x2 M) I M ∨ lp_x "java/lang/IndexOutOfBoundsException" 1 (fun F M => f_X11_setSymbol F x1 x2 M) (fun F M => f_X12_setSymbol F x1 x2 M) I M ∨ lp_x "java/lang/IllegalArgumentException" 2 (fun F M => f_X11_setSymbol F x1 x2 M) (fun F M => f_X12_setSymbol F x1 x2 M) I M)
def lq_5 (I : sm_M → Prop) : Prop := ∀ (M : sm_M) (x1 : Int32), I M → (lp_r (fun F M => f_X11_symbolAt F x1 M) (fun F M => f_X12_symbolAt F x1 M) I M ∨ lp_x "java/lang/IndexOutOfBoundsException" 1 (fun F M => f_X11_symbolAt F x1 M) (fun F M => f_X12_symbolAt F x1 M) I M)
def lq_6 (I : sm_M → Prop) : Prop := ∀ (M : sm_M), I M → (lp_d0 (fun F M => f_X11_length F M) (fun F M => f_X12_length F M) I M)
def lq_7 (I : sm_M → Prop) : Prop := ∀ (M : sm_M), I M → (lp_d (fun F M => f_X11_clear F M) (fun F M => f_X12_clear F M) I M)
def lq_8 (I : sm_M → Prop) : Prop := ∀ (M : sm_M), I M → (lp_r (fun F M => f_X11_undo F M) (fun F M => f_X12_undo F M) I M ∨ lp_x "java/util/NoSuchElementException" 1 (fun F M => f_X11_undo F M) (fun F M => f_X12_undo F M) I M)
def lq_9 (I : sm_M → Prop) : Prop := ∀ (M : sm_M) (x1 : Int32), I M → (lp_r (fun F M => f_X11_feed F ((x1.toUInt32 % 65536).toInt32) M) (fun F M => f_X12_feed F ((x1.toUInt32 % 65536).toInt32) M) I M ∨ lp_x "java/lang/IllegalStateException" 1 (fun F M => f_X11_feed F ((x1.toUInt32 % 65536).toInt32) M) (fun F M => f_X12_feed F ((x1.toUInt32 % 65536).toInt32) M) I M)
def lq_10 (I : sm_M → Prop) : Prop := ∀ (M : sm_M), I M → (lp_d (fun F M => f_X11_read F M) (fun F M => f_X12_read F M) I M)
def lq_11 (I : sm_M → Prop) : Prop := ∀ (M : sm_M), I M → (lp_d (fun F M => f_X11_write F M) (fun F M => f_X12_write F M) I M)
def lq_12 (I : sm_M → Prop) : Prop := ∀ (M : sm_M) (x1 : Int32), I M → (lp_r (fun F M => f_X11_outputAt F x1 M) (fun F M => f_X12_outputAt F x1 M) I M ∨ lp_x "java/lang/IndexOutOfBoundsException" 1 (fun F M => f_X11_outputAt F x1 M) (fun F M => f_X12_outputAt F x1 M) I M)
def lq_13 (I : sm_M → Prop) : Prop := ∀ (M : sm_M) (x1 : Int32), I M → (lp_r (fun F M => f_X11_shownAt F x1 M) (fun F M => f_X12_shownAt F x1 M) I M ∨ lp_x "java/lang/IndexOutOfBoundsException" 1 (fun F M => f_X11_shownAt F x1 M) (fun F M => f_X12_shownAt F x1 M) I M)
def lq_14 (I : sm_M → Prop) : Prop := ∀ (M : sm_M) (x1 : Int32), I M → (lp_r (fun F M => f_X11_occurrences F x1 M) (fun F M => f_X12_occurrences F x1 M) I M ∨ lp_x "java/lang/IndexOutOfBoundsException" 1 (fun F M => f_X11_occurrences F x1 M) (fun F M => f_X12_occurrences F x1 M) I M)
def lq_15 (I : sm_M → Prop) : Prop := ∀ (M : sm_M) (x1 : Int32), I M → (lp_r (fun F M => f_X11_locate F x1 M) (fun F M => f_X12_locate F x1 M) I M ∨ lp_x "java/lang/IndexOutOfBoundsException" 1 (fun F M => f_X11_locate F x1 M) (fun F M => f_X12_locate F x1 M) I M ∨ lp_x "java/util/NoSuchElementException" 2 (fun F M => f_X11_locate F x1 M) (fun F M => f_X12_locate F x1 M) I M)
def lq_16 (I : sm_M → Prop) : Prop := ∀ (M : sm_M), I M → (lp_d (fun F M => f_X11_firstInvalid F M) (fun F M => f_X12_firstInvalid F M) I M)
def lq_17 (I : sm_M → Prop) : Prop := ∀ (M : sm_M), I M → (lp_d (fun F M => f_X11_firstRepeat F M) (fun F M => f_X12_firstRepeat F M) I M)
def lq_18 (I : sm_M → Prop) : Prop := ∀ (M : sm_M), I M → (lp_d (fun F M => f_X11_firstMissing F M) (fun F M => f_X12_firstMissing F M) I M)
def lq_19 (I : sm_M → Prop) : Prop := ∀ (M : sm_M), I M → (lp_d (fun F M => f_X11_isUniversal F M) (fun F M => f_X12_isUniversal F M) I M)
def lq_20 (I : sm_M → Prop) : Prop := ∀ (M : sm_M) (x1 : Int32), I M → (lp_rl (fun F M => f_X11_shownBits F x1 M) (fun F M => f_X12_shownBits F x1 M) I M ∨ lp_x "java/lang/IllegalArgumentException" 1 (fun F M => f_X11_shownBits F x1 M) (fun F M => f_X12_shownBits F x1 M) I M)
def lq_21 (I : sm_M → Prop) : Prop := ∀ (M : sm_M), I M → (lp_d (fun F M => f_X11_longestRun F M) (fun F M => f_X12_longestRun F M) I M)
def lq_22 (I : sm_M → Prop) : Prop := ∀ (M : sm_M), I M → (lp_r (fun F M => f_X11_longestRunStart F M) (fun F M => f_X12_longestRunStart F M) I M ∨ lp_x "java/lang/IllegalStateException" 1 (fun F M => f_X11_longestRunStart F M) (fun F M => f_X12_longestRunStart F M) I M)
def lq_23 (I : sm_M → Prop) : Prop := ∀ (M : sm_M), I M → (lp_d0 (fun F M => f_X11_distinctSymbols F M) (fun F M => f_X12_distinctSymbols F M) I M)
def lq_24 (I : sm_M → Prop) : Prop := ∀ (M : sm_M), I M → (lp_d (fun F M => f_X11_compress F M) (fun F M => f_X12_compress F M) I M)
def lq_25 (I : sm_M → Prop) : Prop := ∀ (M : sm_M) (x1 : Int32), I M → (lp_r (fun F M => f_X11_rotate F x1 M) (fun F M => f_X12_rotate F x1 M) I M ∨ lp_x "java/lang/IndexOutOfBoundsException" 1 (fun F M => f_X11_rotate F x1 M) (fun F M => f_X12_rotate F x1 M) I M)
def lq_26 (I : sm_M → Prop) : Prop := ∀ (M : sm_M), I M → (lp_r (fun F M => f_X11_rotateToLowest F M) (fun F M => f_X12_rotateToLowest F M) I M ∨ lp_x "java/lang/IllegalStateException" 1 (fun F M => f_X11_rotateToLowest F M) (fun F M => f_X12_rotateToLowest F M) I M)
def lq_27 (I : sm_M → Prop) : Prop := ∀ (M : sm_M), I M → (lp_d (fun F M => f_X11_reverse F M) (fun F M => f_X12_reverse F M) I M)
def lq_28 (I : sm_M → Prop) : Prop := ∀ (M : sm_M), I M → (lp_d (fun F M => f_X11_complement F M) (fun F M => f_X12_complement F M) I M)
def lq_29 (I : sm_M → Prop) : Prop := ∀ (M : sm_M) (x1 x2 : Int32), I M → (lp_r (fun F M => f_X11_exchange F x1 x2 M) (fun F M => f_X12_exchange F x1 x2 M) I M ∨ lp_x "java/lang/IllegalArgumentException" 1 (fun F M => f_X11_exchange F x1 x2 M) (fun F M => f_X12_exchange F x1 x2 M) I M)
def lq_30 (I : sm_M → Prop) : Prop := ∀ (M : sm_M), I M → (lp_d (fun F M => f_X11_extendGreedily F M) (fun F M => f_X12_extendGreedily F M) I M)
def lq_31 (I : sm_M → Prop) : Prop := ∀ (M : sm_M) (x1 : Int32), I M → (lp_r (fun F M => f_X11_search F x1 M) (fun F M => f_X12_search F x1 M) I M ∨ lp_x "java/lang/IllegalArgumentException" 1 (fun F M => f_X11_search F x1 M) (fun F M => f_X12_search F x1 M) I M ∨ lp_x "java/lang/IllegalStateException" 2 (fun F M => f_X11_search F x1 M) (fun F M => f_X12_search F x1 M) I M ∨ lp_x "java/util/NoSuchElementException" 3 (fun F M => f_X11_search F x1 M) (fun F M => f_X12_search F x1 M) I M)
def lq_32 (I : sm_M → Prop) : Prop := ∀ (M : sm_M), I M → (lp_r (fun F M => f_X11_vertexCount F M) (fun F M => f_X12_vertexCount F M) I M ∨ lp_x "java/lang/UnsupportedOperationException" 1 (fun F M => f_X11_vertexCount F M) (fun F M => f_X12_vertexCount F M) I M)
def lq_33 (I : sm_M → Prop) : Prop := ∀ (M : sm_M) (x1 : Int32), I M → (lp_r (fun F M => f_X11_edgeEnd F x1 (0 : Int32) M) (fun F M => f_X12_edgeEnd F x1 (0 : Int32) M) I M ∨ lp_x "java/lang/UnsupportedOperationException" 1 (fun F M => f_X11_edgeEnd F x1 (0 : Int32) M) (fun F M => f_X12_edgeEnd F x1 (0 : Int32) M) I M ∨ lp_x "java/lang/IndexOutOfBoundsException" 2 (fun F M => f_X11_edgeEnd F x1 (0 : Int32) M) (fun F M => f_X12_edgeEnd F x1 (0 : Int32) M) I M) ∧ (lp_r (fun F M => f_X11_edgeEnd F x1 (1 : Int32) M) (fun F M => f_X12_edgeEnd F x1 (1 : Int32) M) I M ∨ lp_x "java/lang/UnsupportedOperationException" 1 (fun F M => f_X11_edgeEnd F x1 (1 : Int32) M) (fun F M => f_X12_edgeEnd F x1 (1 : Int32) M) I M ∨ lp_x "java/lang/IndexOutOfBoundsException" 2 (fun F M => f_X11_edgeEnd F x1 (1 : Int32) M) (fun F M => f_X12_edgeEnd F x1 (1 : Int32) M) I M)
def lq_34 (I : sm_M → Prop) : Prop := ∀ (M : sm_M) (x1 : Int32), I M → (lp_r (fun F M => f_X11_inDegree F x1 M) (fun F M => f_X12_inDegree F x1 M) I M ∨ lp_x "java/lang/UnsupportedOperationException" 1 (fun F M => f_X11_inDegree F x1 M) (fun F M => f_X12_inDegree F x1 M) I M ∨ lp_x "java/lang/IndexOutOfBoundsException" 2 (fun F M => f_X11_inDegree F x1 M) (fun F M => f_X12_inDegree F x1 M) I M)
def lq_35 (I : sm_M → Prop) : Prop := ∀ (M : sm_M) (x1 x2 : Int32), I M → (lp_r (fun F M => f_X11_distance F x1 x2 M) (fun F M => f_X12_distance F x1 x2 M) I M ∨ lp_x "java/lang/UnsupportedOperationException" 1 (fun F M => f_X11_distance F x1 x2 M) (fun F M => f_X12_distance F x1 x2 M) I M ∨ lp_x "java/lang/IndexOutOfBoundsException" 2 (fun F M => f_X11_distance F x1 x2 M) (fun F M => f_X12_distance F x1 x2 M) I M ∨ lp_x "java/util/NoSuchElementException" 3 (fun F M => f_X11_distance F x1 x2 M) (fun F M => f_X12_distance F x1 x2 M) I M)
def lq_36 (I : sm_M → Prop) : Prop := ∀ (M : sm_M) (x1 : Int32), I M → (lp_r (fun F M => f_X11_componentOf F x1 M) (fun F M => f_X12_componentOf F x1 M) I M ∨ lp_x "java/lang/UnsupportedOperationException" 1 (fun F M => f_X11_componentOf F x1 M) (fun F M => f_X12_componentOf F x1 M) I M ∨ lp_x "java/lang/IndexOutOfBoundsException" 2 (fun F M => f_X11_componentOf F x1 M) (fun F M => f_X12_componentOf F x1 M) I M)
def lq_37 (I : sm_M → Prop) : Prop := ∀ (M : sm_M), I M → (lp_rl (fun F M => f_X11_circuitCount F M) (fun F M => f_X12_circuitCount F M) I M ∨ lp_x "java/lang/UnsupportedOperationException" 1 (fun F M => f_X11_circuitCount F M) (fun F M => f_X12_circuitCount F M) I M ∨ lp_x "java/util/NoSuchElementException" 2 (fun F M => f_X11_circuitCount F M) (fun F M => f_X12_circuitCount F M) I M ∨ lp_x "java/lang/ArithmeticException" 3 (fun F M => f_X11_circuitCount F M) (fun F M => f_X12_circuitCount F M) I M)
def lq_38 (I : sm_M → Prop) : Prop := ∀ (M : sm_M) (x1 : Int32), I M → (lp_r (fun F M => f_X11_circuitEdge F x1 M) (fun F M => f_X12_circuitEdge F x1 M) I M ∨ lp_x "java/lang/UnsupportedOperationException" 1 (fun F M => f_X11_circuitEdge F x1 M) (fun F M => f_X12_circuitEdge F x1 M) I M ∨ lp_x "java/util/NoSuchElementException" 2 (fun F M => f_X11_circuitEdge F x1 M) (fun F M => f_X12_circuitEdge F x1 M) I M ∨ lp_x "java/lang/IndexOutOfBoundsException" 3 (fun F M => f_X11_circuitEdge F x1 M) (fun F M => f_X12_circuitEdge F x1 M) I M)
def lq_39 (I : sm_M → Prop) : Prop := ∀ (M : sm_M), I M → (lp_r (fun F M => f_X11_useCircuit F M) (fun F M => f_X12_useCircuit F M) I M ∨ lp_x "java/lang/UnsupportedOperationException" 1 (fun F M => f_X11_useCircuit F M) (fun F M => f_X12_useCircuit F M) I M ∨ lp_x "java/util/NoSuchElementException" 2 (fun F M => f_X11_useCircuit F M) (fun F M => f_X12_useCircuit F M) I M)
def lq_40 (I : sm_M → Prop) : Prop := ∀ (M : sm_M), I M → (lp_d (fun F M => f_X11_save F M) (fun F M => f_X12_save F M) I M)
def lq_41 (I : sm_M → Prop) : Prop := ∀ (M : sm_M), I M → (lp_r (fun F M => f_X11_restore F M) (fun F M => f_X12_restore F M) I M ∨ lp_x "java/lang/IllegalStateException" 1 (fun F M => f_X11_restore F M) (fun F M => f_X12_restore F M) I M)
def lq_all (I : sm_M → Prop) : Prop := lq_0 I ∧ lq_1 I ∧ lq_2 I ∧ lq_3 I ∧ lq_4 I ∧ lq_5 I ∧ lq_6 I ∧ lq_7 I ∧ lq_8 I ∧ lq_9 I ∧ lq_10 I ∧ lq_11 I ∧ lq_12 I ∧ lq_13 I ∧ lq_14 I ∧ lq_15 I ∧ lq_16 I ∧ lq_17 I ∧ lq_18 I ∧ lq_19 I ∧ lq_20 I ∧ lq_21 I ∧ lq_22 I ∧ lq_23 I ∧ lq_24 I ∧ lq_25 I ∧ lq_26 I ∧ lq_27 I ∧ lq_28 I ∧ lq_29 I ∧ lq_30 I ∧ lq_31 I ∧ lq_32 I ∧ lq_33 I ∧ lq_34 I ∧ lq_35 I ∧ lq_36 I ∧ lq_37 I ∧ lq_38 I ∧ lq_39 I ∧ lq_40 I ∧ lq_41 I
theorem lj_gt {L n0 : Nat} (hL : L ≤ 2048) (hn : n0 ≤ 3000) : (Int32.ofNat L - 4 < Int32.ofNat n0) ↔ L < n0 + 4 := by
  have e : Int32.ofNat L - 4 = Int32.ofInt ((L : Int) - 4) := by
    rw [Int32.ofInt_sub]
    rfl
  rw [e, Int32.lt_iff_toInt_lt, Int32.toInt_ofInt_of_le (by omega) (by omega), Int32.toInt_ofNat_of_lt (by omega)]
  omega
theorem lj_63 (x : Int32) : ∃ j : Nat, j < 64 ∧ (x &&& 63).toInt = (j : Int) := by
  refine ⟨(x &&& 63).toBitVec.toNat, ?_, ?_⟩
  · have : (x &&& 63).toBitVec.toNat = x.toBitVec.toNat &&& 63 := by
      rw [Int32.toBitVec_and, BitVec.toNat_and]
      rfl
    rw [this]
    exact Nat.lt_of_le_of_lt Nat.and_le_right (by decide)
  · have h : (x &&& 63).toBitVec.toNat < 64 := by
      have : (x &&& 63).toBitVec.toNat = x.toBitVec.toNat &&& 63 := by
        rw [Int32.toBitVec_and, BitVec.toNat_and]
        rfl
      rw [this]
      exact Nat.lt_of_le_of_lt Nat.and_le_right (by decide)
    show (x &&& 63).toBitVec.toInt = _
    rw [BitVec.toInt_eq_toNat_of_lt (by omega)]
set_option maxHeartbeats 4000000 in
theorem lj_loop {I : sm_M → Prop} (h : lq_all I) {L : Nat} {xs : Nat → Int32} (hL9 : L ≤ 2048) : ∀ (fuel n0 : Nat) (M : sm_M), L < n0 + 4 * fuel → n0 ≤ L + 4 → I M → lj_J L xs 23 (lj_l0 n0) [] M (103 + n0) (53300 + 6 * n0) := by
  intro fuel
  induction fuel with
  | zero =>
    intro n0 M h1 h2 hI
    refine lj_iload (q := 25) dl_23 rfl rfl ?_
    refine lj_aload_n (q := 26) dl_25 rfl rfl ?_
    refine lj_slen (q := 27) dl_26 rfl ?_
    refine lj_iconst (q := 28) (v := 4) dl_27 rfl (by decide) ?_
    refine lj_isub (q := 29) dl_28 rfl ?_
    refine lj_icmp_gt (q := 32) (t := 1906) dl_29 rfl rfl (fun _ => ?_) (fun h9 => absurd ((lj_gt hL9 (by omega)).mpr (by omega)) h9)
    refine lj_iconst (q := 1907) (v := 1) dl_1906 rfl (by decide) ?_
    exact lj_ret dl_1907 (by omega) (by omega)
  | succ fuel ih =>
    intro n0 M h1 h2 hI
    refine lj_iload (q := 25) dl_23 rfl rfl ?_
    refine lj_aload_n (q := 26) dl_25 rfl rfl ?_
    refine lj_slen (q := 27) dl_26 rfl ?_
    refine lj_iconst (q := 28) (v := 4) dl_27 rfl (by decide) ?_
    refine lj_isub (q := 29) dl_28 rfl ?_
    refine lj_icmp_gt (q := 32) (t := 1906) dl_29 rfl rfl (fun _ => ?_) (fun h9 => ?_)
    · refine lj_iconst (q := 1907) (v := 1) dl_1906 rfl (by decide) ?_
      exact lj_ret dl_1907 (by omega) (by omega)
    have h4 : n0 + 4 ≤ L := by
      have := mt (lj_gt hL9 (n0 := n0) (by omega)).mpr h9
      omega
    refine lj_aload_n (q := 33) dl_32 rfl rfl ?_
    refine lj_iload (q := 35) dl_33 rfl rfl ?_
    refine lj_sld0 (q := 36) dl_35 rfl hL9 (by omega) ?_
    refine lj_bipush (q := 38) (v := 63) dl_36 rfl (by decide) ?_
    refine lj_iand (q := 39) dl_38 rfl ?_
    obtain ⟨j, hj, hjx⟩ := lj_63 (xs n0)
    have next : ∀ M2, I M2 → lj_J L xs 1900 (lj_l0 n0) [] M2 (103 + n0 + 1) (53300 + 6 * n0 + 6) := fun M2 hI2 => by
      refine lj_iinc (q := 1903) (v := Int32.ofNat (n0 + 4)) (lt := lj_l0 (n0 + 4)) dl_1900 rfl rfl ?_ (by decide) rfl rfl ?_
      · rw [Int32.ofNat_add]
        rfl
      refine lj_goto (t := 23) dl_1903 rfl ?_
      exact lj_wide (by omega) (by omega) (ih (n0 + 4) M2 (by omega) (by omega) hI2)
    obtain ⟨g0, g1, g2, g3, g4, g5, g6, g7, g8, g9, g10, g11, g12, g13, g14, g15, g16, g17, g18, g19, g20, g21, g22, g23, g24, g25, g26, g27, g28, g29, g30, g31, g32, g33, g34, g35, g36, g37, g38, g39, g40, g41⟩ := h
    match j, hj, hjx with
    | 0, _, hjx =>
      refine lj_table (j := 0) (tgt := 220) hjx rfl ?_
      exact lo_0 hL9 h4 (by omega) (by omega) (g0 M (xs (n0 + 1)) (xs (n0 + 2)) (xs (n0 + 3)) hI) next
    | 1, _, hjx =>
      refine lj_table (j := 1) (tgt := 300) hjx rfl ?_
      exact lo_1 hL9 h4 (by omega) (by omega) (g1 M hI) next
    | 2, _, hjx =>
      refine lj_table (j := 2) (tgt := 313) hjx rfl ?_
      exact lo_2 hL9 h4 (by omega) (by omega) (g2 M (xs (n0 + 1)) (xs (n0 + 2)) hI) next
    | 3, _, hjx =>
      refine lj_table (j := 3) (tgt := 381) hjx rfl ?_
      exact lo_3 hL9 h4 (by omega) (by omega) (g3 M (xs (n0 + 1)) hI) next
    | 4, _, hjx =>
      refine lj_table (j := 4) (tgt := 437) hjx rfl ?_
      exact lo_4 hL9 h4 (by omega) (by omega) (g4 M (xs (n0 + 1)) (xs (n0 + 2)) hI) next
    | 5, _, hjx =>
      refine lj_table (j := 5) (tgt := 505) hjx rfl ?_
      exact lo_5 hL9 h4 (by omega) (by omega) (g5 M (xs (n0 + 1)) hI) next
    | 6, _, hjx =>
      refine lj_table (j := 6) (tgt := 561) hjx rfl ?_
      exact lo_6 hL9 h4 (by omega) (by omega) (g6 M hI) next
    | 7, _, hjx =>
      refine lj_table (j := 7) (tgt := 574) hjx rfl ?_
      exact lo_7 hL9 h4 (by omega) (by omega) (g7 M hI) next
    | 8, _, hjx =>
      refine lj_table (j := 8) (tgt := 587) hjx rfl ?_
      exact lo_8 hL9 h4 (by omega) (by omega) (g8 M hI) next
    | 9, _, hjx =>
      refine lj_table (j := 9) (tgt := 631) hjx rfl ?_
      exact lo_9 hL9 h4 (by omega) (by omega) (g9 M (xs (n0 + 1)) hI) next
    | 10, _, hjx =>
      refine lj_table (j := 10) (tgt := 689) hjx rfl ?_
      exact lo_10 hL9 h4 (by omega) (by omega) (g10 M hI) next
    | 11, _, hjx =>
      refine lj_table (j := 11) (tgt := 702) hjx rfl ?_
      exact lo_11 hL9 h4 (by omega) (by omega) (g11 M hI) next
    | 12, _, hjx =>
      refine lj_table (j := 12) (tgt := 715) hjx rfl ?_
      exact lo_12 hL9 h4 (by omega) (by omega) (g12 M (xs (n0 + 1)) hI) next
    | 13, _, hjx =>
      refine lj_table (j := 13) (tgt := 771) hjx rfl ?_
      exact lo_13 hL9 h4 (by omega) (by omega) (g13 M (xs (n0 + 1)) hI) next
    | 14, _, hjx =>
      refine lj_table (j := 14) (tgt := 827) hjx rfl ?_
      exact lo_14 hL9 h4 (by omega) (by omega) (g14 M (xs (n0 + 1)) hI) next
    | 15, _, hjx =>
      refine lj_table (j := 15) (tgt := 883) hjx rfl ?_
      exact lo_15 hL9 h4 (by omega) (by omega) (g15 M (xs (n0 + 1)) hI) next
    | 16, _, hjx =>
      refine lj_table (j := 16) (tgt := 939) hjx rfl ?_
      exact lo_16 hL9 h4 (by omega) (by omega) (g16 M hI) next
    | 17, _, hjx =>
      refine lj_table (j := 17) (tgt := 952) hjx rfl ?_
      exact lo_17 hL9 h4 (by omega) (by omega) (g17 M hI) next
    | 18, _, hjx =>
      refine lj_table (j := 18) (tgt := 965) hjx rfl ?_
      exact lo_18 hL9 h4 (by omega) (by omega) (g18 M hI) next
    | 19, _, hjx =>
      refine lj_table (j := 19) (tgt := 978) hjx rfl ?_
      exact lo_19 hL9 h4 (by omega) (by omega) (g19 M hI) next
    | 20, _, hjx =>
      refine lj_table (j := 20) (tgt := 991) hjx rfl ?_
      exact lo_20 hL9 h4 (by omega) (by omega) (g20 M (xs (n0 + 1)) hI) next
    | 21, _, hjx =>
      refine lj_table (j := 21) (tgt := 1046) hjx rfl ?_
      exact lo_21 hL9 h4 (by omega) (by omega) (g21 M hI) next
    | 22, _, hjx =>
      refine lj_table (j := 22) (tgt := 1059) hjx rfl ?_
      exact lo_22 hL9 h4 (by omega) (by omega) (g22 M hI) next
    | 23, _, hjx =>
      refine lj_table (j := 23) (tgt := 1103) hjx rfl ?_
      exact lo_23 hL9 h4 (by omega) (by omega) (g23 M hI) next
    | 24, _, hjx =>
      refine lj_table (j := 24) (tgt := 1116) hjx rfl ?_
      exact lo_24 hL9 h4 (by omega) (by omega) (g24 M hI) next
    | 25, _, hjx =>
      refine lj_table (j := 25) (tgt := 1129) hjx rfl ?_
      exact lo_25 hL9 h4 (by omega) (by omega) (g25 M (xs (n0 + 1)) hI) next
    | 26, _, hjx =>
      refine lj_table (j := 26) (tgt := 1185) hjx rfl ?_
      exact lo_26 hL9 h4 (by omega) (by omega) (g26 M hI) next
    | 27, _, hjx =>
      refine lj_table (j := 27) (tgt := 1229) hjx rfl ?_
      exact lo_27 hL9 h4 (by omega) (by omega) (g27 M hI) next
    | 28, _, hjx =>
      refine lj_table (j := 28) (tgt := 1242) hjx rfl ?_
      exact lo_28 hL9 h4 (by omega) (by omega) (g28 M hI) next
    | 29, _, hjx =>
      refine lj_table (j := 29) (tgt := 1255) hjx rfl ?_
      exact lo_29 hL9 h4 (by omega) (by omega) (g29 M (xs (n0 + 1)) (xs (n0 + 2)) hI) next
    | 30, _, hjx =>
      refine lj_table (j := 30) (tgt := 1323) hjx rfl ?_
      exact lo_30 hL9 h4 (by omega) (by omega) (g30 M hI) next
    | 31, _, hjx =>
      refine lj_table (j := 31) (tgt := 1336) hjx rfl ?_
      exact lo_31 hL9 h4 (by omega) (by omega) (g31 M (xs (n0 + 1)) hI) next
    | 32, _, hjx =>
      refine lj_table (j := 32) (tgt := 1392) hjx rfl ?_
      exact lo_32 hL9 h4 (by omega) (by omega) (g32 M hI) next
    | 33, _, hjx =>
      refine lj_table (j := 33) (tgt := 1436) hjx rfl ?_
      by_cases hz : xs (n0 + 2) = 0
      · exact lo_33T hL9 h4 (by omega) (by omega) hz (g33 M (xs (n0 + 1)) hI).1 next
      · exact lo_33F hL9 h4 (by omega) (by omega) hz (g33 M (xs (n0 + 1)) hI).2 next
    | 34, _, hjx =>
      refine lj_table (j := 34) (tgt := 1520) hjx rfl ?_
      exact lo_34 hL9 h4 (by omega) (by omega) (g34 M (xs (n0 + 1)) hI) next
    | 35, _, hjx =>
      refine lj_table (j := 35) (tgt := 1576) hjx rfl ?_
      exact lo_35 hL9 h4 (by omega) (by omega) (g35 M (xs (n0 + 1)) (xs (n0 + 2)) hI) next
    | 36, _, hjx =>
      refine lj_table (j := 36) (tgt := 1644) hjx rfl ?_
      exact lo_36 hL9 h4 (by omega) (by omega) (g36 M (xs (n0 + 1)) hI) next
    | 37, _, hjx =>
      refine lj_table (j := 37) (tgt := 1700) hjx rfl ?_
      exact lo_37 hL9 h4 (by omega) (by omega) (g37 M hI) next
    | 38, _, hjx =>
      refine lj_table (j := 38) (tgt := 1743) hjx rfl ?_
      exact lo_38 hL9 h4 (by omega) (by omega) (g38 M (xs (n0 + 1)) hI) next
    | 39, _, hjx =>
      refine lj_table (j := 39) (tgt := 1799) hjx rfl ?_
      exact lo_39 hL9 h4 (by omega) (by omega) (g39 M hI) next
    | 40, _, hjx =>
      refine lj_table (j := 40) (tgt := 1843) hjx rfl ?_
      exact lo_40 hL9 h4 (by omega) (by omega) (g40 M hI) next
    | 41, _, hjx =>
      refine lj_table (j := 41) (tgt := 1856) hjx rfl ?_
      exact lo_41 hL9 h4 (by omega) (by omega) (g41 M hI) next
    | j + 42, _, hjx =>
      refine lj_tableO hjx (by omega) ?_
      exact lj_wide (by omega) (by omega) (next M hI)
