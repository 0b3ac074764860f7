/-! ===== firstInvalid, firstRepeat, firstMissing, isUniversal, shownBits ===== -/
theorem oX_n {x l : Nat} (hl : l < 2 ^ 31) : oX x l = mN ↔ ¬ x < l := by
  unfold oX
  by_cases h : x < l
  · rw [if_pos h, mN_eq (by omega)]
    simp [h]
  · rw [if_neg h]
    simp [h]
theorem fst_n {f : Nat → Bool} {n : Nat} : ¬ fa_first f n < n ↔ ∀ j, j < n → f j = false := by
  constructor
  · intro h j hj
    exact fa_first_no f n j (by omega)
  · intro h
    rw [fst_all h]
    omega
def rpt (sh : Nat → Option Nat) (l p : Nat) : Bool := match sh p with
  | none => false
  | some e => decide (fst1 sh l e < p)
theorem p_inv {M : sm_M} {sh : Nat → Option Nat} {l E : Nat} (h : lkp M sh l E) (hl : l ≤ 240) (he : ∀ p e, sh p = some e → e < 200) : f_X10_invalidPosition 300 M = some (oX (fa_first (fun q => decide (sh q = none)) l) l) := by
  have key : ∀ (m p : Nat), l < m + p → p ≤ l → (∀ q, q < p → decide (sh q = none) = false) → f_X10_invalidPosition_2 300 m (nI p) M = some (oX (fa_first (fun q => decide (sh q = none)) l) l) := by
    intro m
    induction m with
    | zero => intro p a b; omega
    | succ m ih =>
      intro p a1 a2 a3
      show f_X10_invalidPosition_2b 300 (f_X10_invalidPosition_2 300 m) _ _ = _
      unfold f_X10_invalidPosition_2b
      rw [h.1, nl_m1]
      by_cases c : l ≤ p
      · have e : p = l := by omega
        subst e
        rw [if_pos (nI_le c (by omega)), fst_all a3]
        unfold oX
        rw [if_neg (by omega)]
      · rw [if_neg (nI_ge (by omega) (by omega)), g_ib (by omega) (by omega), nI_clamp (by omega), h.2.2.1 p (by omega), i1]
        cases hs : sh p with
        | none =>
          rw [if_pos (show oI none = mN from rfl), fst_at (by omega) a3 (by simp [hs])]
          unfold oX
          rw [if_pos (by omega)]
        | some e =>
          have := he p e hs
          rw [if_neg (show ¬ oI (some e) = mN from fun q => (mN_eq (by omega)).mp q)]
          refine ih (p + 1) (by omega) (by omega) (fun q hq => ?_)
          by_cases e2 : q = p
          · subst e2
            simp [hs]
          · exact a3 q (by omega)
  exact key 300 0 (by omega) (by omega) (fun q hq => by omega)
theorem p_rep {M : sm_M} {sh : Nat → Option Nat} {l E : Nat} (h : lkp M sh l E) (hl : l ≤ 240) (he : ∀ p e, sh p = some e → e < 200) : f_X10_repeatPosition 300 M = some (oX (fa_first (rpt sh l) l) l) := by
  have key : ∀ (m p : Nat), l < m + p → p ≤ l → (∀ q, q < p → rpt sh l q = false) → f_X10_repeatPosition_2 300 m (nI p) M = some (oX (fa_first (rpt sh l) l) l) := by
    intro m
    induction m with
    | zero => intro p a b; omega
    | succ m ih =>
      intro p a1 a2 a3
      show f_X10_repeatPosition_2b 300 (f_X10_repeatPosition_2 300 m) _ _ = _
      unfold f_X10_repeatPosition_2b f_X10_repeatPosition_34
      rw [h.1, nl_m1]
      by_cases c : l ≤ p
      · have e : p = l := by omega
        subst e
        rw [if_pos (nI_le c (by omega)), fst_all a3]
        unfold oX
        rw [if_neg (by omega)]
      · rw [if_neg (nI_ge (by omega) (by omega)), g_ib (by omega) (by omega), nI_clamp (by omega), h.2.2.1 p (by omega), i1]
        have go : rpt sh l p = false → f_X10_repeatPosition_2 300 m (nI (p + 1)) M = some (oX (fa_first (rpt sh l) l) l) := fun hp => by
          refine ih (p + 1) (by omega) (by omega) (fun q hq => ?_)
          by_cases e2 : q = p
          · subst e2
            exact hp
          · exact a3 q (by omega)
        cases hs : sh p with
        | none =>
          rw [if_pos (show oI none = mN from rfl)]
          exact go (by unfold rpt; rw [hs])
        | some e =>
          have h2 := he p e hs
          have ht : times sh l e ≠ 0 := fun q => times_0.mp q p (by omega) hs
          have hf := fst1_lt.mpr ht
          rw [if_neg (show ¬ oI (some e) = mN from fun q => (mN_eq (by omega)).mp q)]
          simp only [show oI (some e) = nI e from rfl, g_ib h2 (show 200 < 2 ^ 31 by omega), nI_clamp (show e < 2 ^ 31 by omega), h.2.2.2.2 e h2 ht]
          by_cases d : p ≤ fst1 sh l e
          · rw [if_pos (nI_le d (by omega))]
            exact go (by unfold rpt; rw [hs]; simp; omega)
          · rw [if_neg (nI_ge (by omega) (by omega)), fst_at (by omega) a3 (by unfold rpt; rw [hs]; simp; omega)]
            unfold oX
            rw [if_pos (by omega)]
  exact key 300 0 (by omega) (by omega) (fun q hq => by omega)
theorem p_mis {M : sm_M} {sh : Nat → Option Nat} {l E : Nat} (h : lkp M sh l E) (hE : E ≤ 200) (hl : l ≤ 240) : f_X10_missingElement 300 M = some (oX (fa_first (fun e => decide (times sh l e = 0)) E) E) := by
  have key : ∀ (m p : Nat), E < m + p → p ≤ E → (∀ q, q < p → decide (times sh l q = 0) = false) → f_X10_missingElement_2 300 m (nI p) M = some (oX (fa_first (fun e => decide (times sh l e = 0)) E) E) := by
    intro m
    induction m with
    | zero => intro p a b; omega
    | succ m ih =>
      intro p a1 a2 a3
      show f_X10_missingElement_2b 300 (f_X10_missingElement_2 300 m) _ _ = _
      unfold f_X10_missingElement_2b
      rw [h.2.1, nl_m1]
      by_cases c : E ≤ p
      · have e : p = E := by omega
        subst e
        rw [if_pos (nI_le c (by omega)), fst_all a3]
        unfold oX
        rw [if_neg (by omega)]
      · have ht : times sh l p ≤ 240 := Nat.le_trans (fb_ct_le _ _) hl
        rw [if_neg (nI_ge (by omega) (by omega)), g_ib (by omega) (by omega), nI_clamp (by omega), h.2.2.2.1 p (by omega), i1]
        by_cases d : times sh l p = 0
        · rw [if_pos (by rw [d]; rfl), fst_at (by omega) a3 (by simp [d])]
          unfold oX
          rw [if_pos (by omega)]
        · rw [if_neg (nI_ne0 (by omega) (by omega))]
          refine ih (p + 1) (by omega) (by omega) (fun q hq => ?_)
          by_cases e2 : q = p
          · subst e2
            simp [d]
          · exact a3 q (by omega)
  exact key 300 0 (by omega) (by omega) (fun q hq => by omega)
theorem sh200 {κ n k l : Nat} {s : Nat → Nat} (ho : okF κ n k = true) : ∀ p e, shp κ n k s l p = some e → e < 200 := fun _ _ h => (shp_lt ho h).2
theorem q_16 : lq_16 IV := by
  rintro M ⟨κ, n, k, l, s, hc, hl, hs, b, v, hO, hC, hM⟩
  refine lp_d_r 300 300 (oX (fa_first (fun q => decide (shp κ n k s l q = none)) l) l) hO hC hM ?_ (fun M h => ?_)
  · show okp (f_X11_firstInvalid 300 M) _
    unfold f_X11_firstInvalid
    refine okp_bind (cc_look hO hC) ?_
    rintro M1 ⟨q1, g1⟩
    rw [p_inv q1 hO.2.1.1 (sh200 hO.1), Option.bind_some]
    exact okp_some ⟨rfl, cfr_z g1 (by omega)⟩
  · show okp (f_X12_firstInvalid 300 M) _
    unfold f_X12_firstInvalid
    obtain ⟨M0, e00, h0, hz, g0⟩ := mz0 h; rw [e00]
    refine okp_bind (mm_fw (t := none) hO h0 (fun e he => by cases he) mfr_refl) ?_
    rintro r ⟨q1, g1⟩
    exact okp_some ⟨q1, mfr_tr g0 (mfr_w g1 (fun _ _ => PW_R))⟩
theorem q_17 : lq_17 IV := by
  rintro M ⟨κ, n, k, l, s, hc, hl, hs, b, v, hO, hC, hM⟩
  have hl2 := hO.2.1.1
  refine lp_d_r 300 300 (oX (fa_first (rpt (shp κ n k s l) l) l) l) hO hC hM ?_ (fun M h => ?_)
  · show okp (f_X11_firstRepeat 300 M) _
    unfold f_X11_firstRepeat
    refine okp_bind (cc_look hO hC) ?_
    rintro M1 ⟨q1, g1⟩
    rw [p_rep q1 hO.2.1.1 (sh200 hO.1), Option.bind_some]
    exact okp_some ⟨rfl, cfr_z g1 (by omega)⟩
  · show okp (f_X12_firstRepeat 300 M) _
    unfold f_X12_firstRepeat
    obtain ⟨M0, e00, h0, hz, g0⟩ := mz0 h; rw [e00]
    have key : ∀ (m p : Nat) (M : sm_M), l < m + p → p ≤ l → mfr PW M0 M → (∀ q, q < p → rpt (shp κ n k s l) l q = false) → okp (f_X12_firstRepeat_7 300 m (nI p) M) (fun r => r.1 = oX (fa_first (rpt (shp κ n k s l) l) l) l ∧ mfr PW M0 r.2) := by
      intro m
      induction m with
      | zero => intro p M a b; omega
      | succ m ih =>
        intro p M a1 a2 g b1
        have h0' := MA_w h0 g
        show okp (f_X12_firstRepeat_7b 300 (f_X12_firstRepeat_7 300 m) _ _) _
        unfold f_X12_firstRepeat_7b f_X12_firstRepeat_37
        rw [h0'.2.1.1, nl_m1]
        by_cases h : l ≤ p
        · have e : p = l := by omega
          subst e
          rw [if_pos (nI_le h (by omega))]
          refine okp_some ⟨?_, g⟩
          rw [fst_all b1]
          unfold oX
          rw [if_neg (by omega)]
        · rw [if_neg (nI_ge (by omega) (by omega)), i1]
          refine okp_bind (mm_shows hO h0' (by omega) (by omega)) ?_
          rintro ⟨x, M1⟩ ⟨q1, g1⟩
          have g2 := mfr_W g (fz_w g1 (by omega) (by omega))
          simp only at q1
          subst q1
          have go : ∀ M2, mfr PW M0 M2 → rpt (shp κ n k s l) l p = false → okp (f_X12_firstRepeat_7 300 m (nI (p + 1)) M2) (fun r => r.1 = oX (fa_first (rpt (shp κ n k s l) l) l) l ∧ mfr PW M0 r.2) := fun M2 gg hp => by
            refine ih (p + 1) M2 (by omega) (by omega) gg (fun q hq => ?_)
            by_cases e2 : q = p
            · subst e2
              exact hp
            · exact b1 q (by omega)
          cases hsh : shp κ n k s l p with
          | none => exact okp_t rfl (go M1 g2 (by unfold rpt; rw [hsh]))
          | some e =>
            have h2 := sh200 hO.1 p e hsh
            have ht : times (shp κ n k s l) l e ≠ 0 := fun q => times_0.mp q p (by omega) hsh
            have hf := fst1_lt.mpr ht
            refine okp_f (fun q => (mN_eq (show e < 2 ^ 31 by omega)).mp q) ?_
            refine okp_bind (mm_fw (t := some e) hO h0 (fun e9 he => by cases he; omega) g2) ?_
            rintro ⟨y, M2⟩ ⟨q3, g3⟩
            have q4 : y = nI (fst1 (shp κ n k s l) l e) := by
              have : y = oX (fst1 (shp κ n k s l) l e) l := q3
              rw [this]
              unfold oX
              rw [if_pos hf]
            subst q4
            by_cases d : p ≤ fst1 (shp κ n k s l) l e
            · exact okp_t (nI_le d (by omega)) (go M2 g3 (by unfold rpt; rw [hsh]; simp; omega))
            · refine okp_f (nI_ge (by omega) (by omega)) (okp_some ⟨?_, g3⟩)
              rw [fst_at (by omega) b1 (by unfold rpt; rw [hsh]; simp; omega)]
              unfold oX
              rw [if_pos (by omega)]
    refine okp_mono (key 300 0 M0 (by omega) (by omega) mfr_refl (fun q hq => by omega)) ?_
    exact fun r q => ⟨q.1, mfr_tr g0 (mfr_w q.2 (fun _ _ => PW_R))⟩
theorem mm_mis {M : sm_M} {κ n k l : Nat} {s : Nat → Nat} {hc : Nat} {hl : Nat → Nat} {hs : Nat → Nat → Nat} {b : Bf} {v : Sv} {M1 : sm_M} (hO : Ok κ n k l s hc hl hs b v) (h0 : MA M κ n k l s hc hl hs b v) (g1 : mfr PW M M1) : okp (f_X12_firstMissing_7 300 300 (nI 0) M1) (fun r => r.1 = oX (fa_first (fun e => decide (times (shp κ n k s l) l e = 0)) (els κ n k).length) (els κ n k).length ∧ mfr PW M r.2) := by
  have hl2 := hO.2.1.1
  have hE := (els_ok hO.1).2.1
  have key : ∀ (m p : Nat) (M2 : sm_M), (els κ n k).length < m + p → p ≤ (els κ n k).length → mfr PW M M2 → (∀ q, q < p → decide (times (shp κ n k s l) l q = 0) = false) → okp (f_X12_firstMissing_7 300 m (nI p) M2) (fun r => r.1 = oX (fa_first (fun e => decide (times (shp κ n k s l) l e = 0)) (els κ n k).length) (els κ n k).length ∧ mfr PW M r.2) := by
    intro m
    induction m with
    | zero => intro p M a b; omega
    | succ m ih =>
      intro p M2 a1 a2 g b1
      have h0' := MA_w h0 g
      show okp (f_X12_firstMissing_7b 300 (f_X12_firstMissing_7 300 m) _ _) _
      unfold f_X12_firstMissing_7b
      rw [h0'.1.2.2.2.1, nl_m1]
      by_cases h : (els κ n k).length ≤ p
      · have e : p = (els κ n k).length := by omega
        subst e
        rw [if_pos (nI_le h (by omega))]
        refine okp_some ⟨?_, g⟩
        rw [fst_all b1]
        unfold oX
        rw [if_neg (by omega)]
      · rw [if_neg (nI_ge (by omega) (by omega)), i1]
        refine okp_bind (mm_fw (t := some p) hO h0 (fun e9 he => by cases he; omega) g) ?_
        rintro ⟨y, M3⟩ ⟨q3, g3⟩
        have q4 : y = oX (fst1 (shp κ n k s l) l p) l := q3
        subst q4
        by_cases d : times (shp κ n k s l) l p = 0
        · refine okp_t ((oX_n (by omega)).mpr (fun q => fst1_lt.mp q d)) (okp_some ⟨?_, g3⟩)
          show nI p = oX _ _
          rw [fst_at (by omega) b1 (by simp [d])]
          unfold oX
          rw [if_pos (by omega)]
        · refine okp_f (fun q => (oX_n (by omega)).mp q (fst1_lt.mpr d)) ?_
          refine ih (p + 1) M3 (by omega) (by omega) g3 (fun q hq => ?_)
          by_cases e2 : q = p
          · subst e2
            simp [d]
          · exact b1 q (by omega)
  exact key 300 0 M1 (by omega) (by omega) g1 (fun q hq => by omega)
theorem q_18 : lq_18 IV := by
  rintro M ⟨κ, n, k, l, s, hc, hl, hs, b, v, hO, hC, hM⟩
  refine lp_d_r 300 300 (oX (fa_first (fun e => decide (times (shp κ n k s l) l e = 0)) (els κ n k).length) (els κ n k).length) hO hC hM ?_ (fun M h => ?_)
  · show okp (f_X11_firstMissing 300 M) _
    unfold f_X11_firstMissing
    refine okp_bind (cc_look hO hC) ?_
    rintro M1 ⟨q1, g1⟩
    rw [p_mis q1 (els_ok hO.1).2.1 hO.2.1.1, Option.bind_some]
    exact okp_some ⟨rfl, cfr_z g1 (by omega)⟩
  · show okp (f_X12_firstMissing 300 M) _
    unfold f_X12_firstMissing
    obtain ⟨M0, e00, h0, hz, g0⟩ := mz0 h; rw [e00]
    refine okp_mono (mm_mis hO h0 mfr_refl) ?_
    exact fun r q => ⟨q.1, mfr_tr g0 (mfr_w q.2 (fun _ _ => PW_R))⟩
theorem uni_eq {sh : Nat → Option Nat} {l E : Nat} (hb : ∀ p e, sh p = some e → e < E) (hA : ∀ p, p < l → sh p ≠ none) (hc : ∀ e, e < E → times sh l e ≠ 0) : (∀ p, p < l → rpt sh l p = false) ↔ l = E := by
  have gl : ∀ e, e < E → fst1 sh l e < l := fun e he => fst1_lt.mpr (hc e he)
  have gs : ∀ e, e < E → sh (fst1 sh l e) = some e := fun e he => by
    have := fa_first_yes _ _ (gl e he)
    simp only [decide_eq_true_eq] at this
    exact this
  have gi : ∀ i j, i < j → j < E → fst1 sh l i ≠ fst1 sh l j := fun i j h1 h2 h3 => by
    have a := gs i (by omega)
    have b := gs j h2
    rw [h3, b] at a
    cases a
    omega
  have sg : ∀ p, p < l → ∃ e, e < E ∧ sh p = some e := fun p hp => by
    cases h : sh p with
    | none => exact absurd h (hA p hp)
    | some e => exact ⟨e, hb p e h, rfl⟩
  constructor
  · intro hB
    have h1 : E ≤ l := fb_holes l E (fst1 sh l) gl gi
    have h2 : l ≤ E := by
      refine fb_holes E l (fun p => (sh p).getD 0) (fun p hp => ?_) (fun i j hij hj h => ?_)
      · obtain ⟨e, he, e2⟩ := sg p hp
        simp [e2, he]
      · obtain ⟨e, he, e2⟩ := sg i (by omega)
        obtain ⟨e', he', e3⟩ := sg j hj
        simp [e2, e3] at h
        subst h
        have hr := hB j hj
        unfold rpt at hr
        rw [e3] at hr
        simp at hr
        have : ¬ i < fst1 sh l e := fun q => by
          have := fa_first_no (fun q => decide (sh q = some e)) l i q
          simp [e2] at this
        omega
    omega
  · intro hle p hp
    subst hle
    obtain ⟨e, he, hpe⟩ := fb_onto gl gi hp
    have := gs e he
    rw [hpe] at this
    unfold rpt
    rw [this]
    simp
    omega
theorem q_19 : lq_19 IV := by
  rintro M ⟨κ, n, k, l, s, hc, hl, hs, b, v, hO, hC, hM⟩
  have hl2 := hO.2.1.1
  have hE := (els_ok hO.1).2.1
  have hb : ∀ p e, shp κ n k s l p = some e → e < (els κ n k).length := fun p e h => (shp_lt hO.1 h).1
  by_cases hA : ¬ fa_first (fun q => decide (shp κ n k s l q = none)) l < l
  · by_cases hCc : ¬ fa_first (fun e => decide (times (shp κ n k s l) l e = 0)) (els κ n k).length < (els κ n k).length
    · have uq := uni_eq hb (fun p hp => by have := fst_n.mp hA p hp; simpa using this) (fun e he => by have := fst_n.mp hCc e he; simpa using this)
      rw [← fst_n] at uq
      by_cases hB : ¬ fa_first (rpt (shp κ n k s l) l) l < l
      · have hle := uq.mp hB
        refine lp_d_r 300 300 (nI 1) hO hC hM ?_ (fun M h => ?_)
        · show okp (f_X11_isUniversal 300 M) _
          unfold f_X11_isUniversal f_X11_isUniversal_53
          refine okp_bind (cc_look hO hC) ?_
          rintro M1 ⟨q1, g1⟩
          rw [p_inv q1 hl2 (sh200 hO.1), Option.bind_some, nl_m1, if_pos ((oX_n (by omega)).mpr hA), p_rep q1 hl2 (sh200 hO.1), Option.bind_some, if_pos ((oX_n (by omega)).mpr hB), p_mis q1 hE hl2, Option.bind_some, if_pos ((oX_n (by omega)).mpr hCc), nl_1, g_b1]
          exact okp_some ⟨rfl, cfr_z g1 (by omega)⟩
        · show okp (f_X12_isUniversal 300 M) _
          unfold f_X12_isUniversal f_X12_isUniversal_38
          obtain ⟨M0, e00, h0, hz, g0⟩ := mz0 h; rw [e00]
          rw [h0.2.1.1, h0.1.2.2.2.1, if_pos (by rw [hle]), nl_m1]
          refine okp_bind (mm_fw (t := none) hO h0 (fun e he => by cases he) mfr_refl) ?_
          rintro ⟨y, M2⟩ ⟨q3, g3⟩
          have q4 : y = _ := q3
          subst q4
          refine okp_t ((oX_n (by omega)).mpr hA) ?_
          unfold f_X12_firstMissing
          have gt : mfr PR M0 (sm_mi M2 80 0 0) := mfr_mi (mfr_w g3 (fun _ _ => PW_R)) (by unfold PR; omega)
          have ht := MA_t (x := 0) (MA_w h0 g3)
          refine okp_bind (mm_mis hO ht mfr_refl) ?_
          rintro ⟨z, M3⟩ ⟨q5, g5⟩
          have q6 : z = _ := q5
          subst q6
          refine okp_t ((oX_n (by omega)).mpr hCc) ?_
          rw [nl_1, g_b1]
          exact okp_some ⟨rfl, mfr_tr g0 (mfr_tr gt (mfr_w g5 (fun _ _ => PW_R)))⟩
      · have hle : ¬ l = (els κ n k).length := fun q => hB (uq.mpr q)
        refine lp_d_r 300 300 (nI 0) hO hC hM ?_ (fun M h => ?_)
        · show okp (f_X11_isUniversal 300 M) _
          unfold f_X11_isUniversal f_X11_isUniversal_52 f_X11_isUniversal_53
          refine okp_bind (cc_look hO hC) ?_
          rintro M1 ⟨q1, g1⟩
          rw [p_inv q1 hl2 (sh200 hO.1), Option.bind_some, nl_m1, if_pos ((oX_n (by omega)).mpr hA), p_rep q1 hl2 (sh200 hO.1), Option.bind_some, if_neg (fun q => hB ((oX_n (by omega)).mp q)), nl_0, g_b0]
          exact okp_some ⟨rfl, cfr_z g1 (by omega)⟩
        · show okp (f_X12_isUniversal 300 M) _
          unfold f_X12_isUniversal f_X12_isUniversal_37 f_X12_isUniversal_38
          obtain ⟨M0, e00, h0, hz, g0⟩ := mz0 h; rw [e00]
          rw [h0.2.1.1, h0.1.2.2.2.1, if_neg (fun q => hle ((nI_eq (by omega) (by omega)).mp q)), nl_0, g_b0]
          exact okp_some ⟨rfl, g0⟩
    · refine lp_d_r 300 300 (nI 0) hO hC hM ?_ (fun M h => ?_)
      · show okp (f_X11_isUniversal 300 M) _
        unfold f_X11_isUniversal f_X11_isUniversal_52 f_X11_isUniversal_53
        refine okp_bind (cc_look hO hC) ?_
        rintro M1 ⟨q1, g1⟩
        rw [p_inv q1 hl2 (sh200 hO.1), Option.bind_some, nl_m1, if_pos ((oX_n (by omega)).mpr hA), p_rep q1 hl2 (sh200 hO.1), Option.bind_some, p_mis q1 hE hl2, Option.bind_some, if_neg (c := oX (fa_first (fun e => decide (times (shp κ n k s l) l e = 0)) (els κ n k).length) (els κ n k).length = mN) (fun q => hCc ((oX_n (by omega)).mp q)), ite_self, nl_0, g_b0]
        exact okp_some ⟨rfl, cfr_z g1 (by omega)⟩
      · show okp (f_X12_isUniversal 300 M) _
        unfold f_X12_isUniversal f_X12_isUniversal_37 f_X12_isUniversal_38
        obtain ⟨M0, e00, h0, hz, g0⟩ := mz0 h; rw [e00]
        rw [h0.2.1.1, h0.1.2.2.2.1, nl_m1]
        by_cases hle : l = (els κ n k).length
        · rw [if_pos (by rw [hle])]
          refine okp_bind (mm_fw (t := none) hO h0 (fun e he => by cases he) mfr_refl) ?_
          rintro ⟨y, M2⟩ ⟨q3, g3⟩
          have q4 : y = _ := q3
          subst q4
          refine okp_t ((oX_n (by omega)).mpr hA) ?_
          unfold f_X12_firstMissing
          have gt : mfr PR M0 (sm_mi M2 80 0 0) := mfr_mi (mfr_w g3 (fun _ _ => PW_R)) (by unfold PR; omega)
          have ht := MA_t (x := 0) (MA_w h0 g3)
          refine okp_bind (mm_mis hO ht mfr_refl) ?_
          rintro ⟨z, M3⟩ ⟨q5, g5⟩
          have q6 : z = _ := q5
          subst q6
          refine okp_f (fun q => hCc ((oX_n (by omega)).mp q)) ?_
          rw [nl_0, g_b0]
          exact okp_some ⟨rfl, mfr_tr g0 (mfr_tr gt (mfr_w g5 (fun _ _ => PW_R)))⟩
        · rw [if_neg (fun q => hle ((nI_eq (by omega) (by omega)).mp q)), nl_0, g_b0]
          exact okp_some ⟨rfl, g0⟩
  · refine lp_d_r 300 300 (nI 0) hO hC hM ?_ (fun M h => ?_)
    · show okp (f_X11_isUniversal 300 M) _
      unfold f_X11_isUniversal f_X11_isUniversal_52 f_X11_isUniversal_53
      refine okp_bind (cc_look hO hC) ?_
      rintro M1 ⟨q1, g1⟩
      rw [p_inv q1 hl2 (sh200 hO.1), Option.bind_some, nl_m1, if_neg (fun q => hA ((oX_n (by omega)).mp q)), nl_0, g_b0]
      exact okp_some ⟨rfl, cfr_z g1 (by omega)⟩
    · show okp (f_X12_isUniversal 300 M) _
      unfold f_X12_isUniversal f_X12_isUniversal_37 f_X12_isUniversal_38
      obtain ⟨M0, e00, h0, hz, g0⟩ := mz0 h; rw [e00]
      rw [h0.2.1.1, h0.1.2.2.2.1, nl_m1]
      by_cases hle : l = (els κ n k).length
      · rw [if_pos (by rw [hle])]
        refine okp_bind (mm_fw (t := none) hO h0 (fun e he => by cases he) mfr_refl) ?_
        rintro ⟨y, M2⟩ ⟨q3, g3⟩
        have q4 : y = _ := q3
        subst q4
        refine okp_f (fun q => hA ((oX_n (by omega)).mp q)) ?_
        rw [nl_0, g_b0]
        exact okp_some ⟨rfl, mfr_tr g0 (mfr_w g3 (fun _ _ => PW_R))⟩
      · rw [if_neg (fun q => hle ((nI_eq (by omega) (by omega)).mp q)), nl_0, g_b0]
        exact okp_some ⟨rfl, g0⟩
