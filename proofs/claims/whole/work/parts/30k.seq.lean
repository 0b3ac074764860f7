/-! ===== calls that make a new sequence out of the old ===== -/
theorem c0 : (0 : Int32).toNatClampNeg = 0 := by decide
theorem bit_s {s : Nat → Nat} {j y : Nat} : (mskn s (j + 1)).testBit y = ((mskn s j).testBit y || decide (s j = y)) := by
  rw [mskn, Nat.testBit_or, Nat.testBit_two_pow]
theorem p_lt15 {F l t x y : Nat} {s : Nat → Nat} {M : sm_M} {kb : Int32 → Int32 → Int32 → sm_M → Option Int32} (h3 : M.1 80 12 = nI l) (h4 : ∀ i, i < l → M.1 86 i = nI (s i)) (hl : l ≤ 240) (hs : ∀ i, i < l → s i < 8) (hy : y < 8) : ∀ (m j : Nat), l < m + j → j ≤ l → f_X12_lessThan_15 F kb m (nI t) (nI x) (nI y) (nI (if (mskn s j).testBit y = true then 1 else 0)) (nI j) M = kb (nI t) (nI (x + if (mskn s l).testBit y = true then 1 else 0)) (nI (y + 1)) M := by
  intro m
  induction m with
  | zero => intro j h1 h2; omega
  | succ m ih =>
    intro j h1 h2
    show f_X12_lessThan_15b F kb (f_X12_lessThan_15 F kb m) _ _ _ _ _ _ = _
    unfold f_X12_lessThan_15b f_X12_lessThan_64 f_X12_lessThan_40 f_X12_lessThan_45
    rw [h3, nl_0, nl_1, nI_add, nI_add, nI_add, nI_add]
    by_cases h : l ≤ j
    · have e : j = l := by omega
      subst e
      rw [if_pos (nI_le h (by omega))]
      cases (mskn s j).testBit y <;> rfl
    · have ih1 := ih (j + 1) (by omega) (by omega)
      have h8 := hs j (by omega)
      rw [bit_s] at ih1
      rw [if_neg (nI_ge (by omega) (by omega)), g_ib (by omega) (by omega), nI_clamp (by omega), h4 j (by omega)]
      cases hb : (mskn s j).testBit y with
      | true =>
        rw [hb] at ih1
        rw [if_neg (by decide)]
        exact ih1
      | false =>
        rw [hb] at ih1
        rw [if_pos (by decide)]
        simp (disch := omega) only [nI_eq]
        by_cases e : s j = y
        · rw [if_pos e]
          rw [decide_eq_true e] at ih1
          exact ih1
        · rw [if_neg e]
          rw [decide_eq_false e] at ih1
          exact ih1
theorem p_lt {F l t : Nat} {s : Nat → Nat} {M : sm_M} (h3 : M.1 80 12 = nI l) (h4 : ∀ i, i < l → M.1 86 i = nI (s i)) (hl : l ≤ 240) (hs : ∀ i, i < l → s i < 8) (ht : t ≤ 8) (hF : 240 < F) : f_X12_lessThan F (nI t) M = some (nI (popn (mskn s l) t)) := by
  have key : ∀ (m y : Nat), t < m + y → y ≤ t → f_X12_lessThan_4 F m (nI t) (nI (popn (mskn s l) y)) (nI y) M = some (nI (popn (mskn s l) t)) := by
    intro m
    induction m with
    | zero => intro y h1 h2; omega
    | succ m ih =>
      intro y h1 h2
      show f_X12_lessThan_4b F (f_X12_lessThan_4 F m) _ _ _ _ = _
      unfold f_X12_lessThan_4b
      by_cases h : t ≤ y
      · have e : y = t := by omega
        subst e
        rw [if_pos (nI_le h (by omega))]
      · rw [if_neg (nI_ge (by omega) (by omega))]
        have e0 : (nI (if (mskn s 0).testBit y = true then 1 else 0)) = nI 0 := by
          rw [mskn, Nat.zero_testBit]
          rfl
        have e1 := p_lt15 (F := F) (t := t) (x := popn (mskn s l) y) (kb := f_X12_lessThan_4 F m) h3 h4 hl hs (show y < 8 by omega) F 0 (by omega) (by omega)
        rw [e0] at e1
        rw [nl_0, e1]
        exact ih (y + 1) (by omega) (by omega)
  exact key F 0 (by omega) (by omega)
theorem sk8 {k l : Nat} {s : Nat → Nat} {hc : Nat} {hl : Nat → Nat} {hs : Nat → Nat → Nat} (h : okQ k l s hc hl hs) (hk : k ≤ 8) : ∀ i, i < l → s i < 8 := fun i hi => Nat.lt_of_lt_of_le (h.2.1 i hi) hk
theorem q_23 : lq_23 IV := by
  rintro M ⟨κ, n, k, l, s, hc, hl, hs, b, v, hO, hC, hM⟩
  have h8 := sk8 hO.2.1 (ok_k hO.1)
  have hm : mskn s l < 256 := mskn_lt h8
  refine lp_d0_r 300 300 (nI (popn (mskn s l) 8)) hO hC hM ?_ ?_
  · show f_X11_distinctSymbols 300 M = _
    unfold f_X11_distinctSymbols
    rw [p_mask hC.2.1.1 hO.2.1.1 h8 (by omega), Option.bind_some, p_bc hm, Option.bind_some]
  · show okp (f_X12_distinctSymbols 300 M) _
    have h := hM
    unfold f_X12_distinctSymbols
    obtain ⟨M0, e00, h0, hz, g0⟩ := mz0 h; rw [e00]
    rw [nl_8, p_lt h0.2.1.1 h0.2.1.2.1 hO.2.1.1 h8 (by omega) (by omega), Option.bind_some]
    exact okp_some ⟨rfl, g0⟩
theorem p_cmp_l {l : Nat} {s : Nat → Nat} {M0 : sm_M} {ms : Nat} (hms : ms < 256) (h3 : M0.1 24 1 = nI l) (h4 : ∀ i, i < l → M0.1 25 i = nI (s i)) (hl : l ≤ 240) (hs : ∀ i, i < l → s i < 8) : ∀ (m i : Nat) (M : sm_M), l < m + i → i ≤ l → fz 25 26 M0 M → (∀ j, j < i → M.1 25 j = nI (popn ms (s j))) → (∀ j, i ≤ j → M.1 25 j = M0.1 25 j) → okp (f_X11_compress_22 300 m (nI ms) (nI i) M) (fun r => r.1 = nI (popn ms 8) ∧ (∀ j, j < l → r.2.1 25 j = nI (popn ms (s j))) ∧ fz 25 26 M0 r.2) := by
  intro m
  induction m with
  | zero => intro i M h1 h2; omega
  | succ m ih =>
    intro i M h1 h2 g a1 a2
    show okp (f_X11_compress_22b 300 (f_X11_compress_22 300 m) _ _ _) _
    unfold f_X11_compress_22b
    rw [fz_1 g (by omega), h3]
    by_cases h : l ≤ i
    · rw [if_pos (nI_le h (by omega)), p_bc hms, Option.bind_some]
      exact okp_some ⟨rfl, fun j hj => a1 j (by omega), g⟩
    · rw [if_neg (nI_ge (by omega) (by omega)), g_ib (by omega) (by omega), nI_clamp (by omega), a2 i (by omega), h4 i (by omega), nl_1, p_bcl hms (hs i (by omega)), Option.bind_some, g_ib (by omega) (by omega), nI_add]
      refine ih (i + 1) _ (by omega) (by omega) (fz_then g (by omega) (by omega)) (fun j hj => ?_) (fun j hj => ?_)
      · by_cases e : j = i
        · subst e
          rw [mi_eq]
        · rw [mi_ni e]
          exact a1 j (by omega)
      · rw [mi_ni (by omega)]
        exact a2 j (by omega)
theorem p_mcmp_l {M0 : sm_M} {κ n k l : Nat} {s : Nat → Nat} {hc : Nat} {hl : Nat → Nat} {hs : Nat → Nat → Nat} {b : Bf} {v : Sv} (hO : Ok κ n k l s hc hl hs b v) (h0 : MA M0 κ n k l s hc hl hs b v) : ∀ (m i : Nat) (M : sm_M), l < m + i → i ≤ l → mfr PW M0 M → (∀ j, j < i → M.1 89 j = nI (popn (mskn s l) (s j))) → okp (f_X12_compress_7 300 m (nI i) M) (fun r => r.1 = nI (popn (mskn s l) 8) ∧ MsQ r.2 l (fun j => popn (mskn s l) (s j)) (hup hc) (hcons l hl) (hcons s hs) ∧ mfr PZ M0 r.2) := by
  have h8 := sk8 hO.2.1 (ok_k hO.1)
  have hl2 := hO.2.1.1
  intro m
  induction m with
  | zero => intro i M h1 h2; omega
  | succ m ih =>
    intro i M h1 h2 g a1
    have h0' := (MA_w h0 g).2.1
    show okp (f_X12_compress_7b 300 (f_X12_compress_7 300 m) _ _) _
    unfold f_X12_compress_7b
    rw [h0'.1]
    by_cases h : l ≤ i
    · rw [if_pos (nI_le h (by omega)), nl_8, p_lt h0'.1 h0'.2.1 hl2 h8 (by omega) (by omega), Option.bind_some]
      refine okp_bind (mm_made hO.2.1 h0 g hl2 (fun j hj => a1 j (by omega))) ?_
      rintro M' ⟨q1, q2⟩
      exact okp_some ⟨rfl, q1, q2⟩
    · rw [if_neg (nI_ge (by omega) (by omega)), g_ib (by omega) (by omega), nI_clamp (by omega), h0'.2.1 i (by omega), p_lt h0'.1 h0'.2.1 hl2 h8 (by have := h8 i (by omega); omega) (by omega), Option.bind_some, g_ib (by omega) (by omega), i1]
      refine ih (i + 1) _ (by omega) (by omega) (mfr_mi g (by unfold PW; omega)) (fun j hj => ?_)
      by_cases e : j = i
      · subst e
        rw [mi_eq]
      · rw [mi_ni e]
        exact a1 j (by omega)
theorem q_24 : lq_24 IV := by
  rintro M ⟨κ, n, k, l, s, hc, hl, hs, b, v, hO, hC, hM⟩
  have h8 := sk8 hO.2.1 (ok_k hO.1)
  have hm : mskn s l < 256 := mskn_lt h8
  refine lp_d_q (l' := l) (s' := fun j => popn (mskn s l) (s j)) 300 300 (nI (popn (mskn s l) 8)) hO hC hM (okQ_rec hO.2.1 hO.2.1.1 (fun i hi => Nat.lt_of_le_of_lt (popn_le _ _) (hO.2.1.2.1 i hi))) ?_ (fun M h => ?_)
  · show okp (f_X11_compress 300 M) _
    unfold f_X11_compress
    refine okp_bind (cc_rem hO.2.1 hC.2.1) ?_
    rintro ⟨a, M1⟩ ⟨q1, -, -, -, g1⟩
    show okp ((f_X7_symbolMask 300 24 M1).bind _) _
    rw [p_mask q1.1 hO.2.1.1 h8 (by omega), Option.bind_some]
    refine okp_mono (p_cmp_l hm q1.1.1 q1.1.2 hO.2.1.1 h8 300 0 M1 (by have := hO.2.1.1; omega) (by omega) fz_refl (fun j hj => by omega) (fun j _ => rfl)) ?_
    rintro r ⟨r1, r2, r3⟩
    exact ⟨r1, cc_set q1 r2 r3, cfq_tr (cfq_z g1 (by omega)) (cfq_z r3 (by omega))⟩
  · show okp (f_X12_compress 300 M) _
    unfold f_X12_compress
    obtain ⟨M0, e00, h0, hz, g0⟩ := mz0 h; rw [e00]
    refine okp_mono (p_mcmp_l hO h0 300 0 M0 (by have := hO.2.1.1; omega) (by omega) mfr_refl (fun j hj => by omega)) ?_
    exact fun r q => mm_zd g0 q
/-! rotations -/
theorem p_turn_l {a l p : Nat} {s : Nat → Nat} {M0 : sm_M} (hr : rowp M0 a l s) (ha : 28 ≤ a) (h0 : 0 < l) (hl : l ≤ 240) (hp : p < 240) : ∀ (m i : Nat) (M : sm_M), l < m + i → i ≤ l → fz 25 26 M0 M → (∀ j, j < i → M.1 25 j = nI (cyw s l p j)) → okp (f_X11_turnTo_14 300 m (nI p) a (nI i) M) (fun r => r.1 = nI (s 0) ∧ (∀ j, j < l → r.2.1 25 j = nI (cyw s l p j)) ∧ fz 25 26 M0 r.2) := by
  intro m
  induction m with
  | zero => intro i M h1 h2; omega
  | succ m ih =>
    intro i M h1 h2 g a1
    have hr' := rowp_f hr g (by omega)
    show okp (f_X11_turnTo_14b 300 (f_X11_turnTo_14 300 m) _ _ _ _) _
    unfold f_X11_turnTo_14b
    rw [hr'.1]
    by_cases h : l ≤ i
    · rw [if_pos (nI_le h (by omega)), c0, hr'.2 0 h0]
      exact okp_some ⟨rfl, fun j hj => a1 j (by omega), g⟩
    · rw [if_neg (nI_ge (by omega) (by omega)), nI_add, p_cyc hr' h0 hl (by omega), Option.bind_some, g_ib (by omega) (by omega), nI_clamp (by omega), i1]
      refine ih (i + 1) _ (by omega) (by omega) (fz_then g (by omega) (by omega)) (fun j hj => ?_)
      by_cases e : j = i
      · subst e
        rw [mi_eq]
        rfl
      · rw [mi_ni e]
        exact a1 j (by omega)
theorem cc_turn {M : sm_M} {k l : Nat} {s : Nat → Nat} {hc : Nat} {hl : Nat → Nat} {hs : Nat → Nat → Nat} {p : Nat} (hO : okQ k l s hc hl hs) (hC : CQ M l s hc hl hs) (h0 : 0 < l) (hp : p < l) : okp (f_X11_turnTo 300 (nI p) M) (fun r => r.1 = nI (s 0) ∧ CQ r.2 l (cyw s l p) (hup hc) (hcons l hl) (hcons s hs) ∧ cfq M r.2) := by
  have hl2 := hO.1
  unfold f_X11_turnTo
  refine okp_bind (cc_rem hO hC) ?_
  rintro ⟨a, M1⟩ ⟨q1, q2, q3, -, g1⟩
  refine okp_mono (p_turn_l q2 q3 h0 hl2 (by omega) 300 0 M1 (by omega) (by omega) fz_refl (fun j hj => by omega)) ?_
  rintro r ⟨r1, r2, r3⟩
  exact ⟨r1, cc_set q1 r2 r3, cfq_tr (cfq_z g1 (by omega)) (cfq_z r3 (by omega))⟩
theorem p_mrot_l {M0 : sm_M} {l p : Nat} {s : Nat → Nat} (h3 : M0.1 80 12 = nI l) (h4 : ∀ i, i < l → M0.1 86 i = nI (s i)) (hl : l ≤ 240) (hp : p < 240) : ∀ (m i : Nat) (M : sm_M), l < m + i → i ≤ l → mfr PW M0 M → (∀ j, j < i → M.1 89 j = nI (cyw s l p j)) → okp (f_X12_makeRotated_2 300 m (nI p) (nI i) M) (fun M' => mfr PW M0 M' ∧ ∀ j, j < l → M'.1 89 j = nI (cyw s l p j)) := by
  intro m
  induction m with
  | zero => intro i M h1 h2; omega
  | succ m ih =>
    intro i M h1 h2 g a1
    show okp (f_X12_makeRotated_2b 300 (f_X12_makeRotated_2 300 m) _ _ _) _
    unfold f_X12_makeRotated_2b
    rw [g.1 80 12 (by unfold PW; omega), h3]
    by_cases h : l ≤ i
    · rw [if_pos (nI_le h (by omega))]
      exact okp_some ⟨g, fun j hj => a1 j (by omega)⟩
    · have hm : (p + i) % l < l := Nat.mod_lt _ (by omega)
      rw [if_neg (nI_ge (by omega) (by omega)), g_nz (by omega) (by omega), nI_add, pk_rem (by omega) (by omega) (by omega), g_ib (by omega) (by omega), g_ib (by omega) (by omega), nI_clamp (by omega), nI_clamp (by omega), i1, g.1 86 _ (by unfold PW; omega), h4 _ hm]
      refine ih (i + 1) _ (by omega) (by omega) (mfr_mi g (by unfold PW; omega)) (fun j hj => ?_)
      by_cases e : j = i
      · subst e
        rw [mi_eq]
        rfl
      · rw [mi_ni e]
        exact a1 j (by omega)
theorem okQ_rot {k l p : Nat} {s : Nat → Nat} {hc : Nat} {hl : Nat → Nat} {hs : Nat → Nat → Nat} (h : okQ k l s hc hl hs) : okQ k l (cyw s l p) (hup hc) (hcons l hl) (hcons s hs) := okQ_rec h h.1 (fun i hi => h.2.1 _ (Nat.mod_lt _ (by omega)))
theorem q_25 : lq_25 IV := by
  rintro M x1 ⟨κ, n, k, l, s, hc, hl, hs, b, v, hO, hC, hM⟩
  have hl2 := hO.2.1.1
  have c1 := hC.2.1.1.1
  have key : ∀ x1, (x1 < 0 ∨ nI l ≤ x1) → lp_x "java/lang/IndexOutOfBoundsException" 1 (fun F M => f_X11_rotate F x1 M) (fun F M => f_X12_rotate F x1 M) IV M := by
    intro x1 hx
    refine lp_x_r 0 0 hO hC hM ?_ (fun M h => ?_)
    · show okp (f_X11_rotate 0 x1 M) _
      unfold f_X11_rotate
      rw [p_nPos_out c1 hx, bx_r]
      exact okp_some ⟨rfl, cfr_refl⟩
    · show okp (f_X12_rotate 0 x1 M) _
      unfold f_X12_rotate
      obtain ⟨M0, e00, h0, hz, g0⟩ := mz0 h; rw [e00]
      rw [p_isPos_out h0.2.1.1 hx hl2, Option.bind_some, if_pos (by decide), p_fail]
      exact okp_some (mm_x g0)
  rcases pk_ix x1 (n := l) (by omega) with hx | hx | ⟨p, hp, rfl⟩
  · exact Or.inr (key x1 (Or.inl hx))
  · exact Or.inr (key x1 (Or.inr hx))
  refine Or.inl (lp_r_q (l' := l) (s' := cyw s l p) 300 300 (nI (s 0)) hO hC hM (okQ_rot hO.2.1) ?_ (fun M h => ?_))
  · show okp (f_X11_rotate 300 (nI p) M) _
    unfold f_X11_rotate
    rw [p_nPos_in c1 hp hl2, bx_l]
    refine okp_bind (cc_turn hO.2.1 hC.2.1 (by omega) hp) ?_
    rintro r ⟨r1, r2, r3⟩
    exact okp_some ⟨by rw [r1], r2, r3⟩
  · show okp (f_X12_rotate 300 (nI p) M) _
    unfold f_X12_rotate
    obtain ⟨M0, e00, h0, hz, g0⟩ := mz0 h; rw [e00]
    rw [p_isPos_in h0.2.1.1 hp hl2, Option.bind_some, if_neg (by decide), c0, h0.2.1.2.1 0 (by omega)]
    refine okp_bind (p_mrot_l h0.2.1.1 h0.2.1.2.1 hl2 (by omega) 300 0 M0 (by omega) (by omega) mfr_refl (fun j hj => by omega)) ?_
    rintro M1 ⟨g1, a1⟩
    rw [g1.1 80 12 (by unfold PW; omega), h0.2.1.1]
    refine okp_bind (mm_made hO.2.1 h0 g1 hl2 a1) ?_
    rintro M2 ⟨q1, q2⟩
    exact okp_some (mm_z (r := (nI (s 0), M2)) g0 hz ⟨rfl, q1, q2⟩)
theorem p_mlow {M : sm_M} {l p q : Nat} {s : Nat → Nat} (h3 : M.1 80 12 = nI l) (h4 : ∀ i, i < l → M.1 86 i = nI (s i)) (hl : l ≤ 240) (hs : ∀ i, i < l → s i < 8) (hp : p < 240) (hq : q < 240) : f_X12_isLower 300 (nI p) (nI q) M = some (if lowr s l p q l 0 = true then nI 1 else nI 0) := by
  have key : ∀ (m i : Nat), l < m + i → i ≤ l → f_X12_isLower_2 300 m (nI p) (nI q) (nI i) M = some (if lowr s l p q (l - i) i = true then nI 1 else nI 0) := by
    intro m
    induction m with
    | zero => intro i h1 h2; omega
    | succ m ih =>
      intro i h1 h2
      show f_X12_isLower_2b 300 (f_X12_isLower_2 300 m) _ _ _ _ = _
      unfold f_X12_isLower_2b f_X12_isLower_59
      rw [h3]
      by_cases h : l ≤ i
      · have e : l - i = 0 := by omega
        rw [if_pos (nI_le h (by omega)), e]
        rfl
      · have h0 : 0 < l := by omega
        have n1 : (p + i) % l < l := Nat.mod_lt (p + i) h0
        have n2 : (q + i) % l < l := Nat.mod_lt (q + i) h0
        have m1 := hs _ n1
        have m2 := hs _ n2
        have e : l - i = (l - (i + 1)) + 1 := by omega
        rw [if_neg (nI_ge (by omega) (by omega)), nI_add, nI_add, pk_rem (by omega) (by omega) (by omega), pk_rem (by omega) (by omega) (by omega), g_nz (by omega) (by omega), g_nz (by omega) (by omega), g_ib (by omega) (by omega), g_ib (by omega) (by omega), nI_clamp (by omega), nI_clamp (by omega), h4 _ n1, h4 _ n2, e, lowr, i1, nl_0, nl_1, g_b0, g_b1]
        simp (disch := omega) only [nI_eq, nI_leI]
        by_cases c : s ((p + i) % l) = s ((q + i) % l)
        · rw [if_pos c, if_pos c]
          exact ih (i + 1) (by omega) (by omega)
        · rw [if_neg c, if_neg c]
          by_cases d : s ((q + i) % l) ≤ s ((p + i) % l)
          · rw [if_pos d, if_neg (by simp only [decide_eq_true_eq]; omega)]
          · rw [if_neg d, if_pos (by simp only [decide_eq_true_eq]; omega)]
  exact key 300 0 (by omega) (by omega)
theorem q_26 : lq_26 IV := by
  rintro M ⟨κ, n, k, l, s, hc, hl, hs, b, v, hO, hC, hM⟩
  have hl2 := hO.2.1.1
  have c1 := hC.2.1.1.1
  have h8 := sk8 hO.2.1 (ok_k hO.1)
  by_cases hz0 : l = 0
  · refine Or.inr (lp_x_r 0 0 hO hC hM ?_ (fun M h => ?_))
    · show okp (f_X11_rotateToLowest 0 M) _
      unfold f_X11_rotateToLowest f_X11_needSequence
      rw [c1, hz0, if_pos (by decide), bx_r]
      exact okp_some ⟨rfl, cfr_refl⟩
    · show okp (f_X12_rotateToLowest 0 M) _
      unfold f_X12_rotateToLowest
      obtain ⟨M0, e00, h0, hz, g0⟩ := mz0 h; rw [e00]
      rw [h0.2.1.1, hz0, if_pos (by decide), p_fail]
      exact okp_some (mm_x g0)
  · have hb := lowb_lt s l l (by omega)
    refine Or.inl (lp_r_q (l' := l) (s' := cyw s l (lowb s l l)) 300 300 (nI (lowb s l l)) hO hC hM (okQ_rot hO.2.1) ?_ (fun M h => ?_))
    · show okp (f_X11_rotateToLowest 300 M) _
      unfold f_X11_rotateToLowest f_X11_needSequence
      rw [c1, if_neg (nI_ne0 (by omega) (by omega)), bx_l, p_lowest hC.2.1.1 hl2 (by omega) h8 (by omega), Option.bind_some]
      refine okp_bind (cc_turn hO.2.1 hC.2.1 (by omega) hb) ?_
      rintro r ⟨r1, r2, r3⟩
      exact okp_some ⟨rfl, r2, r3⟩
    · show okp (f_X12_rotateToLowest 300 M) _
      unfold f_X12_rotateToLowest
      obtain ⟨M0, e00, h0, hz, g0⟩ := mz0 h; rw [e00]
      rw [h0.2.1.1, if_neg (nI_ne0 (by omega) (by omega))]
      have key : ∀ (m p : Nat), l < m + p → 0 < p → p ≤ l → okp (f_X12_rotateToLowest_22 300 m (nI (lowb s l p)) (nI p) M0) (fun r => r.1 = nI (lowb s l l) ∧ MsQ r.2 l (cyw s l (lowb s l l)) (hup hc) (hcons l hl) (hcons s hs) ∧ mfr PZ M0 r.2) := by
        intro m
        induction m with
        | zero => intro p h1 h2; omega
        | succ m ih =>
          intro p h1 h2 h3
          have hb2 := lowb_lt s l p h2
          show okp (f_X12_rotateToLowest_22b 300 (f_X12_rotateToLowest_22 300 m) _ _ _) _
          unfold f_X12_rotateToLowest_22b f_X12_rotateToLowest_44
          rw [h0.2.1.1]
          by_cases h : l ≤ p
          · have e : p = l := by omega
            subst e
            rw [if_pos (nI_le h (by omega))]
            refine okp_bind (p_mrot_l h0.2.1.1 h0.2.1.2.1 hl2 (by omega) 300 0 M0 (by omega) (by omega) mfr_refl (fun j hj => by omega)) ?_
            rintro M1 ⟨g1, a1⟩
            rw [g1.1 80 12 (by unfold PW; omega), h0.2.1.1]
            refine okp_bind (mm_made hO.2.1 h0 g1 hl2 a1) ?_
            rintro M2 ⟨q1, q2⟩
            exact okp_some ⟨rfl, q1, q2⟩
          · rw [if_neg (nI_ge (by omega) (by omega)), p_mlow h0.2.1.1 h0.2.1.2.1 hl2 h8 (by omega) (by omega), Option.bind_some, nl_0, b_if, i1]
            have ih1 := ih (p + 1) (by omega) (by omega) (by omega)
            rw [lowb] at ih1
            by_cases c : lowr s l p (lowb s l p) l 0 = true
            · rw [if_pos c]
              rw [if_pos ⟨by omega, c⟩] at ih1
              exact ih1
            · rw [if_neg c]
              rw [if_neg (fun q => c q.2)] at ih1
              exact ih1
      exact okp_mono (key 300 1 (by omega) (by omega) (by omega)) (fun r q => mm_z g0 hz q)
