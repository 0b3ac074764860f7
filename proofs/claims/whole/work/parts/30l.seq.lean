/-! ===== reverse, complement, exchange ===== -/
theorem p_rev_l {a l : Nat} {s : Nat → Nat} {M0 : sm_M} (hr : rowp M0 a l s) (h3 : M0.1 24 1 = nI l) (ha : 28 ≤ a) (hl : l ≤ 240) : ∀ (m i : Nat) (M : sm_M), l < m + i → i ≤ l → fz 25 26 M0 M → (∀ j, j < i → M.1 25 j = nI (s (l - 1 - j))) → okp (f_X11_reverse_14 300 m a (nI i) M) (fun r => r.1 = nI l ∧ (∀ j, j < l → r.2.1 25 j = nI (s (l - 1 - j))) ∧ fz 25 26 M0 r.2) := by
  intro m
  induction m with
  | zero => intro i M h1 h2; omega
  | succ m ih =>
    intro i M h1 h2 g a1
    have hr' := rowp_f hr g (by omega)
    show okp (f_X11_reverse_14b 300 (f_X11_reverse_14 300 m) _ _ _) _
    unfold f_X11_reverse_14b
    rw [hr'.1]
    by_cases h : l ≤ i
    · rw [if_pos (nI_le h (by omega)), fz_1 g (by omega), h3]
      exact okp_some ⟨rfl, fun j hj => a1 j (by omega), g⟩
    · rw [if_neg (nI_ge (by omega) (by omega)), nl_1, pk_sub (by omega), pk_sub (by omega), g_ib (by omega) (by omega), g_ib (by omega) (by omega), nI_clamp (by omega), nI_clamp (by omega), nI_add, hr'.2 _ (by omega)]
      refine ih (i + 1) _ (by omega) (by omega) (fz_then g (by omega) (by omega)) (fun j hj => ?_)
      by_cases e : j = i
      · subst e
        rw [mi_eq]
      · rw [mi_ni e]
        exact a1 j (by omega)
theorem p_mrev_l {M0 : sm_M} {κ n k l : Nat} {s : Nat → Nat} {hc : Nat} {hl : Nat → Nat} {hs : Nat → Nat → Nat} {b : Bf} {v : Sv} (hO : Ok κ n k l s hc hl hs b v) (h0 : MA M0 κ n k l s hc hl hs b v) : ∀ (m i : Nat) (M : sm_M), l < m + i → i ≤ l → mfr PW M0 M → (∀ j, j < i → M.1 89 j = nI (s (l - 1 - j))) → okp (f_X12_reverse_7 300 m (nI i) M) (fun r => r.1 = nI l ∧ MsQ r.2 l (fun j => s (l - 1 - j)) (hup hc) (hcons l hl) (hcons s hs) ∧ mfr PZ M0 r.2) := by
  have hl2 := hO.2.1.1
  intro m
  induction m with
  | zero => intro i M h1 h2; omega
  | succ m ih =>
    intro i M h1 h2 g a1
    have h0' := (MA_w h0 g).2.1
    show okp (f_X12_reverse_7b 300 (f_X12_reverse_7 300 m) _ _) _
    unfold f_X12_reverse_7b
    rw [h0'.1]
    by_cases h : l ≤ i
    · rw [if_pos (nI_le h (by omega))]
      refine okp_bind (mm_made (s' := fun j => s (l - 1 - j)) hO.2.1 h0 g hl2 (fun j hj => a1 j (by omega))) ?_
      rintro M' ⟨q1, q2⟩
      exact okp_some ⟨q1.1, q1, q2⟩
    · rw [if_neg (nI_ge (by omega) (by omega)), nl_1, pk_sub (by omega), pk_sub (by omega), g_ib (by omega) (by omega), g_ib (by omega) (by omega), nI_clamp (by omega), nI_clamp (by omega), nI_add, h0'.2.1 _ (by omega)]
      refine ih (i + 1) _ (by omega) (by omega) (mfr_mi g (by unfold PW; omega)) (fun j hj => ?_)
      by_cases e : j = i
      · subst e
        rw [mi_eq]
      · rw [mi_ni e]
        exact a1 j (by omega)
theorem q_27 : lq_27 IV := by
  rintro M ⟨κ, n, k, l, s, hc, hl, hs, b, v, hO, hC, hM⟩
  have hl2 := hO.2.1.1
  refine lp_d_q (l' := l) (s' := fun j => s (l - 1 - j)) 300 300 (nI l) hO hC hM (okQ_rec hO.2.1 hl2 (fun i hi => hO.2.1.2.1 _ (by omega))) ?_ (fun M h => ?_)
  · show okp (f_X11_reverse 300 M) _
    unfold f_X11_reverse
    refine okp_bind (cc_rem hO.2.1 hC.2.1) ?_
    rintro ⟨a, M1⟩ ⟨q1, q2, q3, -, g1⟩
    refine okp_mono (p_rev_l q2 q1.1.1 q3 hl2 300 0 M1 (by omega) (by omega) fz_refl (fun j hj => by omega)) ?_
    rintro r ⟨r1, r2, r3⟩
    exact ⟨r1, cc_set q1 r2 r3, cfq_tr (cfq_z g1 (by omega)) (cfq_z r3 (by omega))⟩
  · show okp (f_X12_reverse 300 M) _
    unfold f_X12_reverse
    obtain ⟨M0, e00, h0, hz, g0⟩ := mz0 h; rw [e00]
    exact okp_mono (p_mrev_l hO h0 300 0 M0 (by omega) (by omega) mfr_refl (fun j hj => by omega)) (fun r q => mm_zd g0 q)
theorem p_com_l {k l : Nat} {s : Nat → Nat} {M0 : sm_M} (h3 : M0.1 24 1 = nI l) (h4 : ∀ i, i < l → M0.1 25 i = nI (s i)) (h5 : M0.1 1 3 = nI k) (hs : ∀ i, i < l → s i < k) (hl : l ≤ 240) : ∀ (m i : Nat) (M : sm_M), l < m + i → i ≤ l → fz 25 26 M0 M → (∀ j, j < i → M.1 25 j = nI (k - 1 - s j)) → (∀ j, i ≤ j → M.1 25 j = M0.1 25 j) → okp (f_X11_complement_14 300 m (nI i) M) (fun r => r.1 = nI l ∧ (∀ j, j < l → r.2.1 25 j = nI (k - 1 - s j)) ∧ fz 25 26 M0 r.2) := by
  intro m
  induction m with
  | zero => intro i M h1 h2; omega
  | succ m ih =>
    intro i M h1 h2 g a1 a2
    show okp (f_X11_complement_14b 300 (f_X11_complement_14 300 m) _ _) _
    unfold f_X11_complement_14b
    rw [fz_1 g (a := 24) (by omega), fz_1 g (a := 1) (by omega), h3, h5]
    by_cases h : l ≤ i
    · rw [if_pos (nI_le h (by omega))]
      exact okp_some ⟨rfl, fun j hj => a1 j (by omega), g⟩
    · have hk := hs i (by omega)
      rw [if_neg (nI_ge (by omega) (by omega)), g_ib (by omega) (by omega), g_ib (by omega) (by omega), nI_clamp (by omega), a2 i (by omega), h4 i (by omega), nl_1, pk_sub (by omega), pk_sub (by omega), nI_add]
      refine ih (i + 1) _ (by omega) (by omega) (fz_then g (by omega) (by omega)) (fun j hj => ?_) (fun j hj => ?_)
      · by_cases e : j = i
        · subst e
          rw [mi_eq]
        · rw [mi_ni e]
          exact a1 j (by omega)
      · rw [mi_ni (by omega)]
        exact a2 j (by omega)
theorem p_mcom_l {M0 : sm_M} {κ n k l : Nat} {s : Nat → Nat} {hc : Nat} {hl : Nat → Nat} {hs : Nat → Nat → Nat} {b : Bf} {v : Sv} (hO : Ok κ n k l s hc hl hs b v) (h0 : MA M0 κ n k l s hc hl hs b v) : ∀ (m i : Nat) (M : sm_M), l < m + i → i ≤ l → mfr PW M0 M → (∀ j, j < i → M.1 89 j = nI (k - 1 - s j)) → okp (f_X12_complement_7 300 m (nI i) M) (fun r => r.1 = nI l ∧ MsQ r.2 l (fun j => k - 1 - s j) (hup hc) (hcons l hl) (hcons s hs) ∧ mfr PZ M0 r.2) := by
  have hl2 := hO.2.1.1
  intro m
  induction m with
  | zero => intro i M h1 h2; omega
  | succ m ih =>
    intro i M h1 h2 g a1
    have h0' := (MA_w h0 g)
    show okp (f_X12_complement_7b 300 (f_X12_complement_7 300 m) _ _) _
    unfold f_X12_complement_7b
    rw [h0'.2.1.1, h0'.1.2.2.1]
    by_cases h : l ≤ i
    · rw [if_pos (nI_le h (by omega))]
      refine okp_bind (mm_made (s' := fun j => k - 1 - s j) hO.2.1 h0 g hl2 (fun j hj => a1 j (by omega))) ?_
      rintro M' ⟨q1, q2⟩
      exact okp_some ⟨q1.1, q1, q2⟩
    · have hk := hO.2.1.2.1 i (by omega)
      rw [if_neg (nI_ge (by omega) (by omega)), g_ib (by omega) (by omega), g_ib (by omega) (by omega), nI_clamp (by omega), h0'.2.1.2.1 _ (by omega), nl_1, pk_sub (by omega), pk_sub (by omega), nI_add]
      refine ih (i + 1) _ (by omega) (by omega) (mfr_mi g (by unfold PW; omega)) (fun j hj => ?_)
      by_cases e : j = i
      · subst e
        rw [mi_eq]
      · rw [mi_ni e]
        exact a1 j (by omega)
theorem q_28 : lq_28 IV := by
  rintro M ⟨κ, n, k, l, s, hc, hl, hs, b, v, hO, hC, hM⟩
  have hl2 := hO.2.1.1
  refine lp_d_q (l' := l) (s' := fun j => k - 1 - s j) 300 300 (nI l) hO hC hM (okQ_rec hO.2.1 hl2 (fun i hi => by have := hO.2.1.2.1 i hi; omega)) ?_ (fun M h => ?_)
  · show okp (f_X11_complement 300 M) _
    unfold f_X11_complement
    refine okp_bind (cc_rem hO.2.1 hC.2.1) ?_
    rintro ⟨a, M1⟩ ⟨q1, -, -, -, g1⟩
    refine okp_mono (p_com_l q1.1.1 q1.1.2 (by rw [fz_1 g1 (by omega)]; exact hC.1.1.2.2.1) hO.2.1.2.1 hl2 300 0 M1 (by omega) (by omega) fz_refl (fun j hj => by omega) (fun j _ => rfl)) ?_
    rintro r ⟨r1, r2, r3⟩
    exact ⟨r1, cc_set q1 r2 r3, cfq_tr (cfq_z g1 (by omega)) (cfq_z r3 (by omega))⟩
  · show okp (f_X12_complement 300 M) _
    unfold f_X12_complement
    obtain ⟨M0, e00, h0, hz, g0⟩ := mz0 h; rw [e00]
    exact okp_mono (p_mcom_l hO h0 300 0 M0 (by omega) (by omega) mfr_refl (fun j hj => by omega)) (fun r q => mm_zd g0 q)
/-! exchange -/
def exs (f g x : Nat) : Nat := if x = f then g else if x = g then f else x
def exb (f g x : Nat) : Bool := decide (x = f) || decide (x = g)
theorem p_ex_l {k l f g : Nat} {s : Nat → Nat} {M0 : sm_M} (h3 : M0.1 24 1 = nI l) (h4 : ∀ i, i < l → M0.1 25 i = nI (s i)) (hk : k ≤ 8) (hf : f < k) (hg : g < k) (hs : ∀ i, i < l → s i < k) (hl : l ≤ 240) : ∀ (m i : Nat) (M : sm_M), l < m + i → i ≤ l → fz 25 26 M0 M → (∀ j, j < i → M.1 25 j = nI (exs f g (s j))) → (∀ j, i ≤ j → M.1 25 j = M0.1 25 j) → okp (f_X11_exchange_27 300 m (nI f) (nI g) (nI (fb_ct (fun j => exb f g (s j)) i)) (nI i) M) (fun r => r.1 = .inl (some (.int (nI (fb_ct (fun j => exb f g (s j)) l)))) ∧ (∀ j, j < l → r.2.1 25 j = nI (exs f g (s j))) ∧ fz 25 26 M0 r.2) := by
  intro m
  induction m with
  | zero => intro i M h1 h2; omega
  | succ m ih =>
    intro i M h1 h2 gz a1 a2
    show okp (f_X11_exchange_27b 300 (f_X11_exchange_27 300 m) _ _ _ _ _) _
    unfold f_X11_exchange_27b f_X11_exchange_63 f_X11_exchange_83 f_X11_exchange_87
    rw [fz_1 gz (a := 24) (by omega), h3]
    by_cases h : l ≤ i
    · have e : i = l := by omega
      subst e
      rw [if_pos (nI_le h (by omega))]
      exact okp_some ⟨rfl, fun j hj => a1 j (by omega), gz⟩
    · have hk2 := hs i (by omega)
      have step : ∀ v, v = nI (exs f g (s i)) → okp (f_X11_exchange_27 300 m (nI f) (nI g) (nI (fb_ct (fun j => exb f g (s j)) (i + 1))) (nI (i + 1)) (sm_mi M 25 i v)) (fun r => r.1 = .inl (some (.int (nI (fb_ct (fun j => exb f g (s j)) l)))) ∧ (∀ j, j < l → r.2.1 25 j = nI (exs f g (s j))) ∧ fz 25 26 M0 r.2) := by
        intro v hv
        refine ih (i + 1) _ (by omega) (by omega) (fz_then gz (by omega) (by omega)) (fun j hj => ?_) (fun j hj => ?_)
        · by_cases e : j = i
          · subst e
            rw [mi_eq]
            exact hv
          · rw [mi_ni e]
            exact a1 j (by omega)
        · rw [mi_ni (by omega)]
          exact a2 j (by omega)
      rw [if_neg (nI_ge (by omega) (by omega)), g_ib (by omega) (by omega), g_ib (by omega) (by omega), nI_clamp (by omega), a2 i (by omega), h4 i (by omega), i1, i1]
      simp (disch := omega) only [nI_eq]
      by_cases c1 : s i = f
      · rw [if_pos c1, if_pos c1]
        have := step (nI g) (by unfold exs; rw [if_pos c1])
        rw [fb_ct_succ, if_pos (by unfold exb; simp [c1])] at this
        exact this
      · rw [if_neg c1]
        by_cases c2 : s i = g
        · rw [if_pos c2, if_neg c1, g_ib (by omega) (by omega)]
          have := step (nI f) (by unfold exs; rw [if_neg c1, if_pos c2])
          rw [fb_ct_succ, if_pos (by unfold exb; simp [c2])] at this
          exact this
        · rw [if_neg c2]
          have q := ih (i + 1) M (by omega) (by omega) gz (fun j hj => by
            by_cases e : j = i
            · subst e
              rw [a2 j (by omega), h4 j (by omega)]
              unfold exs
              rw [if_neg c1, if_neg c2]
            · exact a1 j (by omega)) (fun j hj => a2 j (by omega))
          rw [fb_ct_succ, if_neg (by unfold exb; simp [c1, c2]), Nat.add_zero] at q
          exact q
theorem p_mex_l {M0 : sm_M} {κ n k l f g : Nat} {s : Nat → Nat} {hc : Nat} {hl : Nat → Nat} {hs : Nat → Nat → Nat} {b : Bf} {v : Sv} (hO : Ok κ n k l s hc hl hs b v) (h0 : MA M0 κ n k l s hc hl hs b v) (hf : f < k) (hg : g < k) : ∀ (m i : Nat) (M : sm_M), l < m + i → i ≤ l → mfr PW M0 M → (∀ j, j < i → M.1 89 j = nI (exs f g (s j))) → okp (f_X12_exchange_32 300 m (nI f) (nI g) (nI (fb_ct (fun j => exb f g (s j)) i)) (nI i) M) (fun r => r.1 = nI (fb_ct (fun j => exb f g (s j)) l) ∧ MsQ r.2 l (fun j => exs f g (s j)) (hup hc) (hcons l hl) (hcons s hs) ∧ mfr PZ M0 r.2) := by
  have hl2 := hO.2.1.1
  have hk := ok_k hO.1
  intro m
  induction m with
  | zero => intro i M h1 h2; omega
  | succ m ih =>
    intro i M h1 h2 gz a1
    have h0' := (MA_w h0 gz)
    show okp (f_X12_exchange_32b 300 (f_X12_exchange_32 300 m) _ _ _ _ _) _
    unfold f_X12_exchange_32b f_X12_exchange_78 f_X12_exchange_92 f_X12_exchange_97
    rw [h0'.2.1.1]
    by_cases h : l ≤ i
    · have e : i = l := by omega
      subst e
      rw [if_pos (nI_le h (by omega))]
      refine okp_bind (mm_made (s' := fun j => exs f g (s j)) hO.2.1 h0 gz hl2 (fun j hj => a1 j (by omega))) ?_
      rintro M' ⟨q1, q2⟩
      exact okp_some ⟨rfl, q1, q2⟩
    · have hk2 := hO.2.1.2.1 i (by omega)
      have step : ∀ v, v = nI (exs f g (s i)) → okp (f_X12_exchange_32 300 m (nI f) (nI g) (nI (fb_ct (fun j => exb f g (s j)) (i + 1))) (nI (i + 1)) (sm_mi M 89 i v)) (fun r => r.1 = nI (fb_ct (fun j => exb f g (s j)) l) ∧ MsQ r.2 l (fun j => exs f g (s j)) (hup hc) (hcons l hl) (hcons s hs) ∧ mfr PZ M0 r.2) := by
        intro v hv
        refine ih (i + 1) _ (by omega) (by omega) (mfr_mi gz (by unfold PW; omega)) (fun j hj => ?_)
        by_cases e : j = i
        · subst e
          rw [mi_eq]
          exact hv
        · rw [mi_ni e]
          exact a1 j (by omega)
      rw [fb_ct_succ] at step
      simp only [if_neg (nI_ge (show i < l by omega) (show l < 2 ^ 31 by omega)), g_ib (show i < 240 by omega) (show 240 < 2 ^ 31 by omega), nI_clamp (show i < 2 ^ 31 by omega), h0'.2.1.2.1 i (by omega), i1, nl_0, nl_1, nI_add]
      simp (disch := omega) only [nI_eq]
      by_cases c1 : s i = f
      · simp only [c1, if_true] at step ⊢
        have := step (nI g) (by unfold exs; rw [if_pos rfl])
        rw [if_pos (by unfold exb; simp)] at this
        exact this
      · simp only [c1, if_false]
        by_cases c2 : s i = g
        · simp only [c2, if_true] at step c1 ⊢
          have := step (nI f) (by unfold exs; rw [if_neg c1, if_pos rfl])
          rw [if_pos (by unfold exb; simp)] at this
          exact this
        · simp only [c2, if_false]
          have := step (nI (s i)) (by unfold exs; rw [if_neg c1, if_neg c2])
          rw [if_neg (by unfold exb; simp [c1, c2])] at this
          exact this
theorem q_29 : lq_29 IV := by
  rintro M x1 x2 ⟨κ, n, k, l, s, hc, hl, hs, b, v, hO, hC, hM⟩
  have hl2 := hO.2.1.1
  have hk := ok_k hO.1
  have c1 := hC.1.1.2.2.1
  have key : ∀ x1, (x1 < 0 ∨ nI k ≤ x1) → lp_x "java/lang/IllegalArgumentException" 1 (fun F M => f_X11_exchange F x1 x2 M) (fun F M => f_X12_exchange F x1 x2 M) IV M := by
    intro x1 hx
    refine lp_x_r 0 0 hO hC hM ?_ (fun M h => ?_)
    · show okp (f_X11_exchange 0 x1 x2 M) _
      unfold f_X11_exchange
      rw [p_nSy_out c1 hx, bx_r]
      exact okp_some ⟨rfl, cfr_refl⟩
    · show okp (f_X12_exchange 0 x1 x2 M) _
      unfold f_X12_exchange f_X12_exchange_21
      obtain ⟨M0, e00, h0, hz, g0⟩ := mz0 h; rw [e00]
      rw [p_isSy_out h0.1.2.2.1 hx hk, Option.bind_some, if_pos (by decide), p_fail]
      exact okp_some (mm_x g0)
  rcases pk_ix x1 (n := k) (by omega) with hx | hx | ⟨f, hf, rfl⟩
  · exact Or.inr (key x1 (Or.inl hx))
  · exact Or.inr (key x1 (Or.inr hx))
  have key2 : ∀ x2, (x2 < 0 ∨ nI k ≤ x2) → lp_x "java/lang/IllegalArgumentException" 1 (fun F M => f_X11_exchange F (nI f) x2 M) (fun F M => f_X12_exchange F (nI f) x2 M) IV M := by
    intro x2 hx
    refine lp_x_r 0 0 hO hC hM ?_ (fun M h => ?_)
    · show okp (f_X11_exchange 0 (nI f) x2 M) _
      unfold f_X11_exchange
      rw [p_nSy_in c1 hf hk, bx_l, p_nSy_out c1 hx, bx_r]
      exact okp_some ⟨rfl, cfr_refl⟩
    · show okp (f_X12_exchange 0 (nI f) x2 M) _
      unfold f_X12_exchange f_X12_exchange_21
      obtain ⟨M0, e00, h0, hz, g0⟩ := mz0 h; rw [e00]
      rw [p_isSy_in h0.1.2.2.1 hf hk, Option.bind_some, if_neg (by decide), p_isSy_out h0.1.2.2.1 hx hk, Option.bind_some, if_pos (by decide), p_fail]
      exact okp_some (mm_x g0)
  rcases pk_ix x2 (n := k) (by omega) with hx | hx | ⟨g, hg, rfl⟩
  · exact Or.inr (key2 x2 (Or.inl hx))
  · exact Or.inr (key2 x2 (Or.inr hx))
  refine Or.inl (lp_r_q (l' := l) (s' := fun j => exs f g (s j)) 300 300 (nI (fb_ct (fun j => exb f g (s j)) l)) hO hC hM (okQ_rec hO.2.1 hl2 (fun i hi => ?_)) ?_ (fun M h => ?_))
  · have := hO.2.1.2.1 i hi
    show exs f g (s i) < k
    unfold exs
    split
    · exact hg
    · split <;> omega
  · show okp (f_X11_exchange 300 (nI f) (nI g) M) _
    unfold f_X11_exchange
    rw [p_nSy_in c1 hf hk, bx_l, p_nSy_in c1 hg hk, bx_l]
    refine okp_bind (cc_rem hO.2.1 hC.2.1) ?_
    rintro ⟨a, M1⟩ ⟨q1, -, -, -, g1⟩
    refine okp_mono (p_ex_l q1.1.1 q1.1.2 hk hf hg hO.2.1.2.1 hl2 300 0 M1 (by omega) (by omega) fz_refl (fun j hj => by omega) (fun j _ => rfl)) ?_
    rintro r ⟨r1, r2, r3⟩
    exact ⟨r1, cc_set q1 r2 r3, cfq_tr (cfq_z g1 (by omega)) (cfq_z r3 (by omega))⟩
  · show okp (f_X12_exchange 300 (nI f) (nI g) M) _
    unfold f_X12_exchange
    obtain ⟨M0, e00, h0, hz, g0⟩ := mz0 h; rw [e00]
    rw [p_isSy_in h0.1.2.2.1 hf hk, Option.bind_some, if_neg (by decide), p_isSy_in h0.1.2.2.1 hg hk, Option.bind_some, if_neg (by decide)]
    exact okp_mono (p_mex_l hO h0 hf hg 300 0 M0 (by omega) (by omega) mfr_refl (fun j hj => by omega)) (fun r q => mm_z g0 hz q)
