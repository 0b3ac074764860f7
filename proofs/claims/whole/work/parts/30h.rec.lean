/-! ===== from two answers to one step of the law ===== -/
theorem CA_e {M M' : sm_M} {κ n k l : Nat} {s : Nat → Nat} {hc : Nat} {hl : Nat → Nat} {hs : Nat → Nat → Nat} {b : Bf} {v : Sv} (h : CA M κ n k l s hc hl hs b v) (e : M'.1 = M.1) : CA M' κ n k l s hc hl hs b v := by
  refine ⟨CF_c h.1 (fun x _ _ => ?_), CQ_c h.2.1 (fun x _ _ => ?_), CB_c h.2.2.1 ?_ ?_ ?_ ?_, CV_c h.2.2.2 (fun j _ _ => ?_) ?_ ?_⟩ <;> rw [e]
theorem lp_r_q {fx : Nat → sm_M → Option (sm_O × sm_M)} {fm : Nat → sm_M → Option (Int32 × sm_M)} {M : sm_M} {κ n k l l' : Nat} {s s' : Nat → Nat} {hc hc' : Nat} {hl hl' : Nat → Nat} {hs hs' : Nat → Nat → Nat} {b : Bf} {v : Sv} (F G : Nat) (x : Int32) (hO : Ok κ n k l s hc hl hs b v) (hC : CA M κ n k l s hc hl hs b v) (hM : MA M κ n k l s hc hl hs b v) (ok : okQ k l' s' hc' hl' hs')
    (hx : okp (fx F M) (fun r => r.1 = .inl (some (.int x)) ∧ CQ r.2 l' s' hc' hl' hs' ∧ cfq M r.2))
    (hm : ∀ M1, MA M1 κ n k l s hc hl hs b v → okp (fm G M1) (fun r => r.1 = x ∧ r.2.1 80 0 = 0 ∧ MsQ r.2 l' s' hc' hl' hs' ∧ mfr PQ M1 r.2)) : lp_r fx fm IV M := by
  obtain ⟨r, e, e1, q1, g1⟩ := hx
  have hM1 : MA (sm_ml r.2 102 0 x.toInt64) κ n k l s hc hl hs b v := MA_c hM (fun a ha => (g1 a (by omega)).1)
  obtain ⟨r2, e2, e3, e4, q2, g2⟩ := hm _ hM1
  refine ⟨F, G, x, r.2, r2.2, by rw [e, ← e1], by rw [e2, ← e3], e4, ?_, κ, n, k, l', s', hc', hl', hs', b, v, ⟨hO.1, ok, hO.2.2⟩, ?_, MA_q hM1 g2 q2⟩
  · rw [g2.2, ml_eq]
  · exact CA_m (CA_e (M' := sm_ml r.2 102 0 x.toInt64) (CA_q hC g1 q1) rfl) g2 (fun _ _ => PQ_A)
theorem lp_r_r {fx : Nat → sm_M → Option (sm_O × sm_M)} {fm : Nat → sm_M → Option (Int32 × sm_M)} {M : sm_M} {κ n k l : Nat} {s : Nat → Nat} {hc : Nat} {hl : Nat → Nat} {hs : Nat → Nat → Nat} {b : Bf} {v : Sv} (F G : Nat) (x : Int32) (hO : Ok κ n k l s hc hl hs b v) (hC : CA M κ n k l s hc hl hs b v) (hM : MA M κ n k l s hc hl hs b v)
    (hx : okp (fx F M) (fun r => r.1 = .inl (some (.int x)) ∧ cfr M r.2))
    (hm : ∀ M1, MA M1 κ n k l s hc hl hs b v → okp (fm G M1) (fun r => r.1 = x ∧ r.2.1 80 0 = 0 ∧ mfr PR M1 r.2)) : lp_r fx fm IV M :=
  lp_r_q F G x hO hC hM hO.2.1 (okp_mono hx (fun r h => ⟨h.1, CQ_r hC.2.1 h.2, cfr_q h.2⟩)) (fun M1 h1 => okp_mono (hm M1 h1) (fun r h => ⟨h.1, h.2.1, MsQ_r h1.2.1 h.2.2, mfr_w h.2.2 (fun _ _ => PR_Q)⟩))
theorem lp_rl_r {fx : Nat → sm_M → Option (sm_O × sm_M)} {fm : Nat → sm_M → Option (Int64 × sm_M)} {M : sm_M} {κ n k l : Nat} {s : Nat → Nat} {hc : Nat} {hl : Nat → Nat} {hs : Nat → Nat → Nat} {b : Bf} {v : Sv} (F G : Nat) (x : Int64) (hO : Ok κ n k l s hc hl hs b v) (hC : CA M κ n k l s hc hl hs b v) (hM : MA M κ n k l s hc hl hs b v)
    (hx : okp (fx F M) (fun r => r.1 = .inl (some (.long x)) ∧ cfr M r.2))
    (hm : ∀ M1, MA M1 κ n k l s hc hl hs b v → okp (fm G M1) (fun r => r.1 = x ∧ r.2.1 80 0 = 0 ∧ mfr PR M1 r.2)) : lp_rl fx fm IV M := by
  obtain ⟨r, e, e1, g1⟩ := hx
  have hM1 : MA (sm_ml r.2 102 0 x) κ n k l s hc hl hs b v := MA_c hM (fun a ha => (g1 a (by omega)).1)
  obtain ⟨r2, e2, e3, e4, g2⟩ := hm _ hM1
  refine ⟨F, G, x, r.2, r2.2, by rw [e, ← e1], by rw [e2, ← e3], e4, ?_, κ, n, k, l, s, hc, hl, hs, b, v, hO, ?_, MA_q hM1 (mfr_w g2 (fun _ _ => PR_Q)) (MsQ_r hM1.2.1 g2)⟩
  · rw [g2.2, ml_eq]
  · exact CA_m (CA_e (M' := sm_ml r.2 102 0 x) (CA_q hC (cfr_q g1) (CQ_r hC.2.1 g1)) rfl) g2 (fun _ _ h => PQ_A (PR_Q h))
theorem lp_x_r {α : Type} {E : String} {j : Int32} {fx : Nat → sm_M → Option (sm_O × sm_M)} {fm : Nat → sm_M → Option (α × sm_M)} {M : sm_M} {κ n k l : Nat} {s : Nat → Nat} {hc : Nat} {hl : Nat → Nat} {hs : Nat → Nat → Nat} {b : Bf} {v : Sv} (F G : Nat) (hO : Ok κ n k l s hc hl hs b v) (hC : CA M κ n k l s hc hl hs b v) (hM : MA M κ n k l s hc hl hs b v)
    (hx : okp (fx F M) (fun r => r.1 = .inr E ∧ cfr M r.2))
    (hm : ∀ M1, MA M1 κ n k l s hc hl hs b v → okp (fm G M1) (fun r => r.2.1 80 0 = j ∧ mfr PR M1 r.2)) : lp_x E j fx fm IV M := by
  obtain ⟨r, e, e1, g1⟩ := hx
  have hM1 : MA r.2 κ n k l s hc hl hs b v := MA_c hM (fun a ha => (g1 a (by omega)).1)
  obtain ⟨r2, e2, e4, g2⟩ := hm _ hM1
  refine ⟨F, G, r2.1, r.2, r2.2, by rw [e, ← e1], e2, e4, κ, n, k, l, s, hc, hl, hs, b, v, hO, ?_, MA_q hM1 (mfr_w g2 (fun _ _ => PR_Q)) (MsQ_r hM1.2.1 g2)⟩
  exact CA_m (CA_q hC (cfr_q g1) (CQ_r hC.2.1 g1)) g2 (fun _ _ h => PQ_A (PR_Q h))
theorem lp_d_q {fx : Nat → sm_M → Option (Int32 × sm_M)} {fm : Nat → sm_M → Option (Int32 × sm_M)} {M : sm_M} {κ n k l l' : Nat} {s s' : Nat → Nat} {hc hc' : Nat} {hl hl' : Nat → Nat} {hs hs' : Nat → Nat → Nat} {b : Bf} {v : Sv} (F G : Nat) (x : Int32) (hO : Ok κ n k l s hc hl hs b v) (hC : CA M κ n k l s hc hl hs b v) (hM : MA M κ n k l s hc hl hs b v) (ok : okQ k l' s' hc' hl' hs')
    (hx : okp (fx F M) (fun r => r.1 = x ∧ CQ r.2 l' s' hc' hl' hs' ∧ cfq M r.2))
    (hm : ∀ M1, MA M1 κ n k l s hc hl hs b v → okp (fm G M1) (fun r => r.1 = x ∧ MsQ r.2 l' s' hc' hl' hs' ∧ mfr PQ M1 r.2)) : lp_d fx fm IV M := by
  obtain ⟨r, e, e1, q1, g1⟩ := hx
  have hM1 : MA r.2 κ n k l s hc hl hs b v := MA_c hM (fun a ha => (g1 a (by omega)).1)
  obtain ⟨r2, e2, e3, q2, g2⟩ := hm _ hM1
  refine ⟨F, G, x, r.2, r2.2, by rw [e, ← e1], by rw [e2, ← e3], κ, n, k, l', s', hc', hl', hs', b, v, ⟨hO.1, ok, hO.2.2⟩, ?_, MA_q hM1 g2 q2⟩
  exact CA_m (CA_q hC g1 q1) g2 (fun _ _ => PQ_A)
theorem lp_d_r {fx : Nat → sm_M → Option (Int32 × sm_M)} {fm : Nat → sm_M → Option (Int32 × sm_M)} {M : sm_M} {κ n k l : Nat} {s : Nat → Nat} {hc : Nat} {hl : Nat → Nat} {hs : Nat → Nat → Nat} {b : Bf} {v : Sv} (F G : Nat) (x : Int32) (hO : Ok κ n k l s hc hl hs b v) (hC : CA M κ n k l s hc hl hs b v) (hM : MA M κ n k l s hc hl hs b v)
    (hx : okp (fx F M) (fun r => r.1 = x ∧ cfr M r.2))
    (hm : ∀ M1, MA M1 κ n k l s hc hl hs b v → okp (fm G M1) (fun r => r.1 = x ∧ mfr PR M1 r.2)) : lp_d fx fm IV M :=
  lp_d_q F G x hO hC hM hO.2.1 (okp_mono hx (fun r h => ⟨h.1, CQ_r hC.2.1 h.2, cfr_q h.2⟩)) (fun M1 h1 => okp_mono (hm M1 h1) (fun r h => ⟨h.1, MsQ_r h1.2.1 h.2, mfr_w h.2 (fun _ _ => PR_Q)⟩))
theorem lp_d0_r {fx : Nat → sm_M → Option Int32} {fm : Nat → sm_M → Option (Int32 × sm_M)} {M : sm_M} {κ n k l : Nat} {s : Nat → Nat} {hc : Nat} {hl : Nat → Nat} {hs : Nat → Nat → Nat} {b : Bf} {v : Sv} (F G : Nat) (x : Int32) (hO : Ok κ n k l s hc hl hs b v) (hC : CA M κ n k l s hc hl hs b v) (hM : MA M κ n k l s hc hl hs b v)
    (hx : fx F M = some x)
    (hm : okp (fm G M) (fun r => r.1 = x ∧ mfr PR M r.2)) : lp_d0 fx fm IV M := by
  obtain ⟨r2, e2, e3, g2⟩ := hm
  refine ⟨F, G, x, r2.2, hx, by rw [e2, ← e3], κ, n, k, l, s, hc, hl, hs, b, v, hO, ?_, MA_q hM (mfr_w g2 (fun _ _ => PR_Q)) (MsQ_r hM.2.1 g2)⟩
  exact CA_m hC g2 (fun _ _ h => PQ_A (PR_Q h))
/-! ===== guards ===== -/
theorem p_isIn {F : Nat} {x lo hi : Int32} {M : sm_M} : f_X12_isIn F x lo hi M = some (if x < lo then nI 0 else if hi < x then nI 0 else nI 1) := by
  unfold f_X12_isIn f_X12_isIn_14 f_X12_isIn_15
  rw [nl_0, nl_1, g_b0, g_b1]
  split
  · rfl
  · split <;> rfl
theorem p_ix_in {F j l : Nat} {M : sm_M} (h : j < l) (hl : l < 2 ^ 30) : f_X12_isIn F (nI j) (nI 0) (nI l - nI 1) M = some (nI 1) := by
  rw [p_isIn, if_neg (nI_nlt (Nat.zero_le _) (by omega)), pk_sub (by omega), if_neg (nI_nlt (by omega) (by omega))]
theorem p_ix_out {F l : Nat} {x : Int32} {M : sm_M} (h : x < 0 ∨ nI l ≤ x) (hl : l < 2 ^ 30) : f_X12_isIn F x (nI 0) (nI l - nI 1) M = some (nI 0) := by
  rw [p_isIn]
  rcases h with h | h
  · rw [if_pos (show x < nI 0 from h)]
  · have e : nI l - nI 1 < x := by
      rw [fa_le, nI_toInt (by omega)] at h
      rw [fa_lt, pk_sub_toInt (by omega) (by omega)]
      omega
    rw [if_pos e]
    split <;> rfl
theorem p_isPos_in {F j l : Nat} {M : sm_M} (e : M.1 80 12 = nI l) (h : j < l) (hl : l ≤ 240) : f_X12_isPosition F (nI j) M = some (nI 1) := by
  unfold f_X12_isPosition
  rw [e, nl_0, nl_1, p_ix_in h (by omega), Option.bind_some, g_b1]
theorem p_isPos_out {F l : Nat} {x : Int32} {M : sm_M} (e : M.1 80 12 = nI l) (h : x < 0 ∨ nI l ≤ x) (hl : l ≤ 240) : f_X12_isPosition F x M = some (nI 0) := by
  unfold f_X12_isPosition
  rw [e, nl_0, nl_1, p_ix_out h (by omega), Option.bind_some, g_b0]
theorem p_isEl_in {F j l : Nat} {M : sm_M} (e : M.1 80 5 = nI l) (h : j < l) (hl : l ≤ 200) : f_X12_isElement F (nI j) M = some (nI 1) := by
  unfold f_X12_isElement
  rw [e, nl_0, nl_1, p_ix_in h (by omega), Option.bind_some, g_b1]
theorem p_isEl_out {F l : Nat} {x : Int32} {M : sm_M} (e : M.1 80 5 = nI l) (h : x < 0 ∨ nI l ≤ x) (hl : l ≤ 200) : f_X12_isElement F x M = some (nI 0) := by
  unfold f_X12_isElement
  rw [e, nl_0, nl_1, p_ix_out h (by omega), Option.bind_some, g_b0]
theorem p_isSy_in {F j l : Nat} {M : sm_M} (e : M.1 80 3 = nI l) (h : j < l) (hl : l ≤ 8) : f_X12_isSymbol F (nI j) M = some (nI 1) := by
  unfold f_X12_isSymbol
  rw [e, nl_0, nl_1, p_ix_in h (by omega), Option.bind_some, g_b1]
theorem p_isSy_out {F l : Nat} {x : Int32} {M : sm_M} (e : M.1 80 3 = nI l) (h : x < 0 ∨ nI l ≤ x) (hl : l ≤ 8) : f_X12_isSymbol F x M = some (nI 0) := by
  unfold f_X12_isSymbol
  rw [e, nl_0, nl_1, p_ix_out h (by omega), Option.bind_some, g_b0]
theorem p_fail {F : Nat} {x : Int32} {M : sm_M} : f_X12_fail F x M = some (nI 0, sm_mi M 80 0 x) := rfl
theorem p_nPos_in {F j l : Nat} {M : sm_M} (e : M.1 24 1 = nI l) (h : j < l) (hl : l ≤ 240) : f_X11_needPosition F (nI j) M = some (.inl none, M) := by
  unfold f_X11_needPosition
  rw [e, if_neg (nI_pos (by omega)), if_pos (nI_lt h (by omega))]
theorem p_nPos_out {F l : Nat} {x : Int32} {M : sm_M} (e : M.1 24 1 = nI l) (h : x < 0 ∨ nI l ≤ x) : f_X11_needPosition F x M = some (.inr "java/lang/IndexOutOfBoundsException", M) := by
  unfold f_X11_needPosition f_X11_needPosition_15
  rw [e]
  rcases h with h | h
  · rw [if_pos h]
  · rw [if_neg (fun q => absurd h (fa_of_lt q).2.1)]
    split <;> rfl
theorem p_nEl_in {F j l : Nat} {M : sm_M} (e : M.1 2 2 = nI l) (h : j < l) (hl : l ≤ 200) : f_X11_needElement F (nI j) M = some (.inl none, M) := by
  unfold f_X11_needElement
  rw [e, if_neg (nI_pos (by omega)), if_pos (nI_lt h (by omega))]
theorem p_nEl_out {F l : Nat} {x : Int32} {M : sm_M} (e : M.1 2 2 = nI l) (h : x < 0 ∨ nI l ≤ x) : f_X11_needElement F x M = some (.inr "java/lang/IndexOutOfBoundsException", M) := by
  unfold f_X11_needElement f_X11_needElement_18
  rw [e]
  rcases h with h | h
  · rw [if_pos h]
  · rw [if_neg (fun q => absurd h (fa_of_lt q).2.1)]
    split <;> rfl
theorem p_hasSy_in {F j l : Nat} {M : sm_M} (e : M.1 1 3 = nI l) (h : j < l) (hl : l ≤ 8) : f_X2_hasSymbol F (nI j) M = some (nI 1) := by
  unfold f_X2_hasSymbol f_X2_hasSymbol_17
  rw [e, if_neg (nI_pos (by omega)), if_neg (nI_ge h (by omega)), nl_1, g_b1]
theorem p_hasSy_out {F l : Nat} {x : Int32} {M : sm_M} (e : M.1 1 3 = nI l) (h : x < 0 ∨ nI l ≤ x) : f_X2_hasSymbol F x M = some (nI 0) := by
  unfold f_X2_hasSymbol f_X2_hasSymbol_16 f_X2_hasSymbol_17
  rw [e, nl_0, nl_1, g_b0]
  rcases h with h | h
  · rw [if_pos (show x < nI 0 from h)]
  · rw [if_pos h]
    split <;> rfl
theorem p_nSy_in {F j l : Nat} {M : sm_M} (e : M.1 1 3 = nI l) (h : j < l) (hl : l ≤ 8) : f_X11_needSymbol F (nI j) M = some (.inl none, M) := by
  unfold f_X11_needSymbol
  rw [p_hasSy_in e h hl, Option.bind_some, if_neg (by decide)]
theorem p_nSy_out {F l : Nat} {x : Int32} {M : sm_M} (e : M.1 1 3 = nI l) (h : x < 0 ∨ nI l ≤ x) : f_X11_needSymbol F x M = some (.inr "java/lang/IllegalArgumentException", M) := by
  unfold f_X11_needSymbol
  rw [p_hasSy_out e h, Option.bind_some, if_pos (by decide)]
theorem bx_l {v : Option Value} {M : sm_M} {k : sm_M → Option (sm_O × sm_M)} : sm_bx (some (.inl v, M)) k = k M := rfl
theorem bx_r {E : String} {M : sm_M} {k : sm_M → Option (sm_O × sm_M)} : sm_bx (some (.inr E, M)) k = some (.inr E, M) := rfl
/-! ===== the reference's history ===== -/
theorem p_r103 {F r l : Nat} (hr : r < 12) (hl : l ≤ 240) : ∀ (m i : Nat) (M : sm_M), l < m + i → i ≤ l → M.1 80 12 = nI l → M.1 80 15 = nI r → okp (f_X12_record_103 F m (nI i) M) (fun M' => M'.1 80 15 = nI (r + 1) ∧ (∀ j, i ≤ j → j < l → M'.1 87 (240 * r + j) = M.1 86 j) ∧ (∀ a j, (a = 80 → j ≠ 15) → (a = 87 → j < 240 * r + i) → M'.1 a j = M.1 a j) ∧ M'.2 = M.2) := by
  intro m
  induction m with
  | zero => intro i M h1 h2; omega
  | succ m ih =>
    intro i M h1 h2 h3 h4
    show okp (f_X12_record_103b F (f_X12_record_103 F m) _ _) _
    unfold f_X12_record_103b
    rw [h3, h4, nl_1, nl_240, nI_add]
    by_cases h : l ≤ i
    · rw [if_pos (nI_le h (by omega))]
      refine okp_some ⟨mi_eq _ _ _ _, fun j a b => by omega, fun a j e1 e2 => ?_, rfl⟩
      by_cases e : a = 80
      · subst e
        exact mi_ni (e1 rfl)
      · rw [mi_na e]
    · rw [if_neg (nI_ge (by omega) (by omega)), pk_mul, nI_add, g_ib (by omega) (by omega), g_ib (by omega) (by omega), nI_clamp (by omega), nI_clamp (by omega)]
      rw [nI_add]
      refine okp_mono (ih (i + 1) _ (by omega) (by omega) (by rw [mi_na (by omega)]; exact h3) (by rw [mi_na (by omega)]; exact h4)) ?_
      rintro M' ⟨a1, a2, a3, a4⟩
      refine ⟨a1, fun j b1 b2 => ?_, fun a j e1 e2 => ?_, a4⟩
      · by_cases e : j = i
        · subst e
          rw [a3 87 _ (by omega) (by omega), mi_eq]
        · rw [a2 j (by omega) b2, mi_na (by omega)]
      · rw [a3 a j e1 (by omega)]
        by_cases e : a = 87
        · subst e
          have := e2 rfl
          exact mi_ni (by omega)
        · rw [mi_na e]
theorem p_r88 {F r l : Nat} {M : sm_M} (hr : r < 12) (hl : l ≤ 240) (hF : 240 < F) (h3 : M.1 80 12 = nI l) (h4 : M.1 80 15 = nI r) : okp (f_X12_record_88 F M) (fun M' => M'.1 80 15 = nI (r + 1) ∧ M'.1 88 r = nI l ∧ (∀ j, j < l → M'.1 87 (240 * r + j) = M.1 86 j) ∧ (∀ a j, (a = 80 → j ≠ 15) → (a = 87 → j < 240 * r) → (a = 88 → j ≠ r) → M'.1 a j = M.1 a j) ∧ M'.2 = M.2) := by
  unfold f_X12_record_88
  rw [h3, h4, g_ib hr (by omega), nI_clamp (by omega)]
  refine okp_mono (p_r103 (F := F) hr hl F 0 _ (by omega) (by omega) (by rw [mi_na (by omega)]; exact h3) (by rw [mi_na (by omega)]; exact h4)) ?_
  rintro M' ⟨a1, a2, a3, a4⟩
  refine ⟨a1, ?_, fun j b => ?_, fun a j e1 e2 e3 => ?_, a4⟩
  · rw [a3 88 r (by omega) (by omega), mi_eq]
  · rw [a2 j (by omega) b, mi_na (by omega)]
  · rw [a3 a j e1 (by omega)]
    by_cases e : a = 88
    · subst e
      exact mi_ni (e3 rfl)
    · rw [mi_na e]
theorem p_r33 {F r : Nat} {kb : Int32 → sm_M → Option sm_M} {Q : sm_M → Prop} (hr : 1 ≤ r) (hr2 : r < 12) : ∀ (m i : Nat) (M : sm_M), 240 < m + i → i ≤ 240 → (∀ M', (∀ j, i ≤ j → j < 240 → M'.1 87 (240 * (r - 1) + j) = M.1 87 (240 * r + j)) → (∀ a j, (a = 87 → j < 240 * (r - 1) + i ∨ 240 * r ≤ j) → M'.1 a j = M.1 a j) → M'.2 = M.2 → okp (kb (nI (r + 1)) M') Q) → okp (f_X12_record_33 F kb m (nI r) (nI i) M) Q := by
  intro m
  induction m with
  | zero => intro i M h1 h2; omega
  | succ m ih =>
    intro i M h1 h2 h3
    show okp (f_X12_record_33b F kb (f_X12_record_33 F kb m) _ _ _) _
    unfold f_X12_record_33b
    have e9 : ∀ q, nI q + 1 = nI (q + 1) := fun q => nI_1 q
    rw [e9, e9, nl_1, nl_240]
    by_cases h : 240 ≤ i
    · rw [if_pos (nI_le h (by omega))]
      exact h3 M (fun j a b => by omega) (fun a j _ => rfl) rfl
    · rw [if_neg (nI_ge (by omega) (by omega)), pk_sub hr, pk_mul, pk_mul, nI_add, nI_add, g_ib (by omega) (by omega), g_ib (by omega) (by omega), nI_clamp (by omega), nI_clamp (by omega)]
      refine ih (i + 1) _ (by omega) (by omega) ?_
      intro M' a2 a3 a4
      refine h3 M' (fun j b1 b2 => ?_) (fun a j e2 => ?_) a4
      · by_cases e : j = i
        · subst e
          rw [a3 87 _ (by omega), mi_eq]
        · rw [a2 j (by omega) b2, mi_ni (by omega)]
      · rw [a3 a j (fun e => by have := e2 e; omega)]
        by_cases e : a = 87
        · subst e
          have := e2 rfl
          exact mi_ni (by omega)
        · rw [mi_na e]
theorem p_r11 {F : Nat} {Q : sm_M → Prop} (hF : 240 < F) : ∀ (m r : Nat) (M : sm_M), 12 < m + r → 1 ≤ r → r ≤ 12 → (∀ M', (∀ q, r ≤ q → q < 12 → M'.1 88 (q - 1) = M.1 88 q ∧ ∀ i, i < 240 → M'.1 87 (240 * (q - 1) + i) = M.1 87 (240 * q + i)) → (∀ a j, (a = 87 → j < 240 * (r - 1)) → (a = 88 → j < r - 1) → M'.1 a j = M.1 a j) → M'.2 = M.2 → okp (f_X12_record_88 F (sm_mi M' 80 15 (M'.1 80 15 - 1))) Q) → okp (f_X12_record_11 F m (nI r) M) Q := by
  intro m
  induction m with
  | zero => intro i M h1 h2; omega
  | succ m ih =>
    intro r M h1 h2 h3 h4
    show okp (f_X12_record_11b F (f_X12_record_11 F m) _ _) _
    unfold f_X12_record_11b
    rw [nl_1, nl_12]
    by_cases h : 12 ≤ r
    · rw [if_pos (nI_le h (by omega))]
      exact h4 M (fun q a b => by omega) (fun a j _ _ => rfl) rfl
    · rw [if_neg (nI_ge (by omega) (by omega)), pk_sub h2, g_ib (by omega) (by omega), g_ib (by omega) (by omega), nI_clamp (by omega), nI_clamp (by omega)]
      refine p_r33 h2 (by omega) F 0 _ (by omega) (by omega) ?_
      intro M1 c1 c2 c3
      refine ih (r + 1) M1 (by omega) (by omega) (by omega) ?_
      intro M' d1 d2 d3
      refine h4 M' (fun q b1 b2 => ?_) (fun a j e1 e2 => ?_) (d3.trans c3)
      · by_cases e : q = r
        · subst e
          refine ⟨?_, fun i hi => ?_⟩
          · rw [d2 88 _ (by omega) (by omega), c2 88 _ (by omega), mi_eq]
          · rw [d2 87 _ (by omega) (by omega), c1 i (by omega) hi, mi_na (by omega)]
        · obtain ⟨f1, f2⟩ := d1 q (by omega) b2
          refine ⟨?_, fun i hi => ?_⟩
          · rw [f1, c2 88 _ (by omega), mi_ni (by omega)]
          · rw [f2 i hi, c2 87 _ (by omega), mi_na (by omega)]
      · rw [d2 a j (fun e => by have := e1 e; omega) (fun e => by have := e2 e; omega), c2 a j (fun e => by have := e1 e; omega)]
        by_cases e : a = 88
        · subst e
          have := e2 rfl
          exact mi_ni (by omega)
        · rw [mi_na e]
theorem p_record {F l hc : Nat} {s : Nat → Nat} {hl : Nat → Nat} {hs : Nat → Nat → Nat} {M : sm_M} (hF : 240 < F) (h : MsQ M l s hc hl hs) (hl2 : l ≤ 240) (hc2 : hc ≤ 12) (hh : ∀ j, j < hc → hl j ≤ 240) : okp (f_X12_record F M) (fun M' => MsQ M' l s (hup hc) (hcons l hl) (hcons s hs) ∧ mfr PH M M') := by
  obtain ⟨h1, h2, h3, h4⟩ := h
  unfold f_X12_record
  rw [h3, nl_12]
  by_cases c : hc = 12
  · subst c
    rw [if_pos (by decide)]
    refine p_r11 hF F 1 M (by omega) (by omega) (by omega) ?_
    intro M1 c1 c2 c3
    have g1 : M1.1 80 15 = nI 12 := by rw [c2 80 15 (by omega) (by omega)]; exact h3
    have g2 : M1.1 80 12 = nI l := by rw [c2 80 12 (by omega) (by omega)]; exact h1
    have g3 : nI 12 - 1 = nI 11 := by decide
    rw [g1, g3]
    refine okp_mono (p_r88 (r := 11) (l := l) (by omega) hl2 hF (by rw [mi_ni (by omega)]; exact g2) (by rw [mi_eq])) ?_
    rintro M' ⟨a1, a2, a3, a4, a5⟩
    refine ⟨⟨?_, fun i hi => ?_, a1, fun j hj => ?_⟩, fun a j hp => ?_, ?_⟩
    · rw [a4 80 12 (by omega) (by omega) (by omega), mi_ni (by omega)]
      exact g2
    · rw [a4 86 i (by omega) (by omega) (by omega), mi_na (by omega), c2 86 i (by omega) (by omega)]
      exact h2 i hi
    · match j, hj with
      | 0, _ =>
        refine ⟨a2, fun i hi => ?_⟩
        show M'.1 87 (240 * 11 + i) = _
        rw [a3 i hi, mi_na (by omega), c2 86 i (by omega) (by omega)]
        exact h2 i hi
      | j + 1, hj =>
        have hj2 : j + 1 < 12 := hj
        obtain ⟨b1, b2⟩ := h4 j (by omega)
        obtain ⟨d1, d2⟩ := c1 (11 - j) (by omega) (by omega)
        have e1 : hup 12 - 1 - (j + 1) = 11 - j - 1 := by show 12 - 1 - (j + 1) = _; omega
        have e2 : 12 - 1 - j = 11 - j := by omega
        rw [e2] at b1 b2
        rw [e1]
        refine ⟨?_, fun i hi => ?_⟩
        · rw [a4 88 _ (by omega) (by omega) (by omega), mi_na (by omega), d1]
          exact b1
        · have hi2 : i < 240 := Nat.lt_of_lt_of_le hi (hh j (by omega))
          rw [a4 87 _ (by omega) (by omega) (by omega), mi_na (by omega), d2 i hi2]
          exact b2 i hi
    · have q1 : ¬ (a = 80 ∧ j = 15) := fun e => hp (by unfold PH; omega)
      have q2 : a ≠ 87 ∧ a ≠ 88 := ⟨fun e => hp (by unfold PH; omega), fun e => hp (by unfold PH; omega)⟩
      rw [a4 a j (fun e1 e2 => q1 ⟨e1, e2⟩) (by omega) (by omega)]
      rw [mi_1, if_neg q1, c2 a j (by omega) (by omega)]
    · rw [a5, mi_2, c3]
  · rw [if_neg (fun e => c ((nI_eq (by omega) (by omega)).mp e))]
    refine okp_mono (p_r88 (r := hc) (l := l) (by omega) hl2 hF h1 h3) ?_
    rintro M' ⟨a1, a2, a3, a4, a5⟩
    have eh : hup hc = hc + 1 := by unfold hup; rw [if_pos (by omega)]
    rw [eh]
    refine ⟨⟨?_, fun i hi => ?_, a1, fun j hj => ?_⟩, fun a j hp => ?_, ?_⟩
    · rw [a4 80 12 (by omega) (by omega) (by omega)]
      exact h1
    · rw [a4 86 i (by omega) (by omega) (by omega)]
      exact h2 i hi
    · match j, hj with
      | 0, _ =>
        refine ⟨a2, fun i hi => ?_⟩
        show M'.1 87 (240 * hc + i) = _
        rw [a3 i hi]
        exact h2 i hi
      | j + 1, hj =>
        obtain ⟨b1, b2⟩ := h4 j (by omega)
        have e1 : hc + 1 - 1 - (j + 1) = hc - 1 - j := by omega
        rw [e1]
        refine ⟨?_, fun i hi => ?_⟩
        · rw [a4 88 _ (by omega) (by omega) (by omega)]
          exact b1
        · have hi2 : i < 240 := Nat.lt_of_lt_of_le hi (hh j (by omega))
          rw [a4 87 _ (by omega) (by omega) (by omega)]
          exact b2 i hi
    · have q1 : ¬ (a = 80 ∧ j = 15) := fun e => hp (by unfold PH; omega)
      have q2 : a ≠ 87 ∧ a ≠ 88 := ⟨fun e => hp (by unfold PH; omega), fun e => hp (by unfold PH; omega)⟩
      exact a4 a j (fun e1 e2 => q1 ⟨e1, e2⟩) (by omega) (by omega)
    · rw [a5]
theorem p_repl {F l : Nat} (hl : l ≤ 240) : ∀ (m i : Nat) (M : sm_M), l < m + i → i ≤ l → okp (f_X12_replace_11 F m (nI l) (nI i) M) (fun M' => (∀ j, i ≤ j → j < l → M'.1 86 j = M.1 89 j) ∧ (∀ a j, (a = 86 → j < i) → M'.1 a j = M.1 a j) ∧ M'.2 = M.2) := by
  intro m
  induction m with
  | zero => intro i M h1 h2; omega
  | succ m ih =>
    intro i M h1 h2
    show okp (f_X12_replace_11b F (f_X12_replace_11 F m) _ _ _) _
    unfold f_X12_replace_11b
    by_cases h : l ≤ i
    · rw [if_pos (nI_le h (by omega))]
      exact okp_some ⟨fun j a b => by omega, fun _ _ _ => rfl, rfl⟩
    · rw [if_neg (nI_ge (by omega) (by omega)), g_ib (by omega) (by omega), g_ib (by omega) (by omega), nI_clamp (by omega)]
      have e9 : nI i + 1 = nI (i + 1) := nI_1 i
      rw [e9]
      refine okp_mono (ih (i + 1) _ (by omega) (by omega)) ?_
      rintro M' ⟨a2, a3, a4⟩
      refine ⟨fun j b1 b2 => ?_, fun a j e2 => ?_, a4⟩
      · by_cases e : j = i
        · subst e
          rw [a3 86 _ (by omega), mi_eq]
        · rw [a2 j (by omega) b2, mi_na (by omega)]
      · rw [a3 a j (by omega)]
        by_cases e : a = 86
        · subst e
          have := e2 rfl
          exact mi_ni (by omega)
        · rw [mi_na e]
theorem p_replace {F l l' hc : Nat} {s s' : Nat → Nat} {hl : Nat → Nat} {hs : Nat → Nat → Nat} {M : sm_M} (hF : 240 < F) (h : MsQ M l s hc hl hs) (hl2 : l ≤ 240) (hc2 : hc ≤ 12) (hh : ∀ j, j < hc → hl j ≤ 240) (hl3 : l' ≤ 240) (hmd : ∀ i, i < l' → M.1 89 i = nI (s' i)) : okp (f_X12_replace F (nI l') M) (fun M' => MsQ M' l' s' (hup hc) (hcons l hl) (hcons s hs) ∧ mfr PS M M') := by
  unfold f_X12_replace
  refine okp_bind (p_record hF h hl2 hc2 hh) ?_
  rintro M1 ⟨q1, g1⟩
  refine okp_mono (p_repl (F := F) hl3 F 0 _ (by omega) (by omega)) ?_
  rintro M' ⟨a2, a3, a4⟩
  obtain ⟨b1, b2, b3, b4⟩ := q1
  refine ⟨⟨?_, fun i hi => ?_, ?_, fun j hj => ?_⟩, fun a j hp => ?_, ?_⟩
  · rw [a3 80 12 (by omega), mi_eq]
  · rw [a2 i (by omega) hi, mi_na (by omega), g1.1 89 i (by unfold PH; omega)]
    exact hmd i hi
  · rw [a3 80 15 (by omega), mi_ni (by omega)]
    exact b3
  · obtain ⟨c1, c2⟩ := b4 j hj
    refine ⟨?_, fun i hi => ?_⟩
    · rw [a3 88 _ (by omega), mi_na (by omega)]
      exact c1
    · rw [a3 87 _ (by omega), mi_na (by omega)]
      exact c2 i hi
  · rw [a3 a j (fun e => absurd (show PS a j by unfold PS; omega) hp)]
    rw [mi_1, if_neg (fun e => hp (by unfold PS; omega))]
    exact g1.1 a j (fun q => hp (PH_S q))
  · rw [a4, mi_2]
    exact g1.2
