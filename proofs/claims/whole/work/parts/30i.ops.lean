/-! ===== steps that change more; the simplest calls ===== -/
theorem lp_r_g {fx : Nat → sm_M → Option (sm_O × sm_M)} {fm : Nat → sm_M → Option (Int32 × sm_M)} {M : sm_M} {κ n k l : Nat} {s : Nat → Nat} {hc : Nat} {hl : Nat → Nat} {hs : Nat → Nat → Nat} {b : Bf} {v : Sv} {κ' n' k' l' : Nat} {s' : Nat → Nat} {hc' : Nat} {hl' : Nat → Nat} {hs' : Nat → Nat → Nat} {b' : Bf} {v' : Sv} (F G : Nat) (x : Int32) (hM : MA M κ n k l s hc hl hs b v) (ok : Ok κ' n' k' l' s' hc' hl' hs' b' v')
    (hx : okp (fx F M) (fun r => r.1 = .inl (some (.int x)) ∧ CA r.2 κ' n' k' l' s' hc' hl' hs' b' v' ∧ ∀ a, 80 ≤ a → r.2.1 a = M.1 a))
    (hm : ∀ M1, MA M1 κ n k l s hc hl hs b v → okp (fm G M1) (fun r => r.1 = x ∧ r.2.1 80 0 = 0 ∧ MA r.2 κ' n' k' l' s' hc' hl' hs' b' v' ∧ mfr PA M1 r.2)) : lp_r fx fm IV M := by
  obtain ⟨r, e, e1, q1, g1⟩ := hx
  have hM1 : MA (sm_ml r.2 102 0 x.toInt64) κ n k l s hc hl hs b v := MA_c hM (fun a ha => g1 a ha)
  obtain ⟨r2, e2, e3, e4, q2, g2⟩ := hm _ hM1
  refine ⟨F, G, x, r.2, r2.2, by rw [e, ← e1], by rw [e2, ← e3], e4, ?_, κ', n', k', l', s', hc', hl', hs', b', v', ok, ?_, q2⟩
  · rw [g2.2, ml_eq]
  · exact CA_m (CA_e (M' := sm_ml r.2 102 0 x.toInt64) q1 rfl) g2 (fun _ _ h => h)
theorem lp_d_g {fx : Nat → sm_M → Option (Int32 × sm_M)} {fm : Nat → sm_M → Option (Int32 × sm_M)} {M : sm_M} {κ n k l : Nat} {s : Nat → Nat} {hc : Nat} {hl : Nat → Nat} {hs : Nat → Nat → Nat} {b : Bf} {v : Sv} {κ' n' k' l' : Nat} {s' : Nat → Nat} {hc' : Nat} {hl' : Nat → Nat} {hs' : Nat → Nat → Nat} {b' : Bf} {v' : Sv} (F G : Nat) (x : Int32) (hM : MA M κ n k l s hc hl hs b v) (ok : Ok κ' n' k' l' s' hc' hl' hs' b' v')
    (hx : okp (fx F M) (fun r => r.1 = x ∧ CA r.2 κ' n' k' l' s' hc' hl' hs' b' v' ∧ ∀ a, 80 ≤ a → r.2.1 a = M.1 a))
    (hm : ∀ M1, MA M1 κ n k l s hc hl hs b v → okp (fm G M1) (fun r => r.1 = x ∧ MA r.2 κ' n' k' l' s' hc' hl' hs' b' v' ∧ mfr PA M1 r.2)) : lp_d fx fm IV M := by
  obtain ⟨r, e, e1, q1, g1⟩ := hx
  have hM1 : MA r.2 κ n k l s hc hl hs b v := MA_c hM (fun a ha => g1 a ha)
  obtain ⟨r2, e2, e3, q2, g2⟩ := hm _ hM1
  exact ⟨F, G, x, r.2, r2.2, by rw [e, ← e1], by rw [e2, ← e3], κ', n', k', l', s', hc', hl', hs', b', v', ok, CA_m q1 g2 (fun _ _ h => h), q2⟩
theorem MA_t {M : sm_M} {κ n k l : Nat} {s : Nat → Nat} {hc : Nat} {hl : Nat → Nat} {hs : Nat → Nat → Nat} {b : Bf} {v : Sv} {x : Int32} (h : MA M κ n k l s hc hl hs b v) : MA (sm_mi M 80 0 x) κ n k l s hc hl hs b v := by
  have g : mfr PR M (sm_mi M 80 0 x) := mfr_mi mfr_refl (by unfold PR; omega)
  exact MA_q h (mfr_w g (fun _ _ => PR_Q)) (MsQ_r h.2.1 g)
theorem mz0 {M : sm_M} {κ n k l : Nat} {s : Nat → Nat} {hc : Nat} {hl : Nat → Nat} {hs : Nat → Nat → Nat} {b : Bf} {v : Sv} (h : MA M κ n k l s hc hl hs b v) : ∃ M0, sm_mi M 80 0 (0 : Int32) = M0 ∧ MA M0 κ n k l s hc hl hs b v ∧ M0.1 80 0 = 0 ∧ mfr PR M M0 := ⟨_, rfl, MA_t h, mi_eq _ _ _ _, mfr_mi mfr_refl (by unfold PR; omega)⟩
theorem ok_k {κ n k : Nat} (h : okF κ n k = true) : k ≤ 8 := (okF_of h).2.2.2.2.1
/-- the reference throws -/
theorem mm_x {M1 M0 : sm_M} {j : Int32} (g : mfr PR M1 M0) : (sm_mi M0 80 0 j).1 80 0 = j ∧ mfr PR M1 (sm_mi M0 80 0 j) := ⟨mi_eq _ _ _ _, mfr_mi g (by unfold PR; omega)⟩
theorem q_1 : lq_1 IV := by
  rintro M ⟨κ, n, k, l, s, hc, hl, hs, b, v, hO, hC, hM⟩
  refine lp_d0_r 0 0 (nI (els κ n k).length) hO hC hM ?_ (okp_some ⟨?_, mfr_mi mfr_refl (by unfold PR; omega)⟩)
  · show some (M.1 2 2) = _
    rw [hC.1.1.2.2.2.1]
  · rw [mi_ni (by omega)]
    exact hM.1.2.2.2.1
theorem q_6 : lq_6 IV := by
  rintro M ⟨κ, n, k, l, s, hc, hl, hs, b, v, hO, hC, hM⟩
  refine lp_d0_r 0 0 (nI l) hO hC hM ?_ (okp_some ⟨?_, mfr_mi mfr_refl (by unfold PR; omega)⟩)
  · show some (M.1 24 1) = _
    rw [hC.2.1.1.1]
  · rw [mi_ni (by omega)]
    exact hM.2.1.1
theorem q_2 : lq_2 IV := by
  rintro M x1 x2 ⟨κ, n, k, l, s, hc, hl, hs, b, v, hO, hC, hM⟩
  have hn := okF_of hO.1
  have hE := els_ok hO.1
  have c1 := hC.1.1.2.2.2.1
  have c2 := hC.1.1.2.1
  have key : ∀ x1, (x1 < 0 ∨ nI (els κ n k).length ≤ x1) → lp_x "java/lang/IndexOutOfBoundsException" 1 (fun F M => f_X11_elementAt F x1 x2 M) (fun F M => f_X12_elementAt F x1 x2 M) IV M := by
    intro x1 hx
    refine lp_x_r 0 0 hO hC hM ?_ (fun M h => ?_)
    · show okp (f_X11_elementAt 0 x1 x2 M) _
      unfold f_X11_elementAt
      rw [p_nEl_out c1 hx, bx_r]
      exact okp_some ⟨rfl, cfr_refl⟩
    · show okp (f_X12_elementAt 0 x1 x2 M) _
      unfold f_X12_elementAt f_X12_elementAt_40 f_X12_elementAt_45
      obtain ⟨M0, e00, h0, hz, g0⟩ := mz0 h; rw [e00]
      rw [p_isEl_out h0.1.2.2.2.1 hx hE.2.1, Option.bind_some, if_pos (by decide), p_fail]
      exact okp_some (mm_x g0)
  rcases pk_ix x1 (n := (els κ n k).length) (by omega) with hx | hx | ⟨j, hj, rfl⟩
  · exact Or.inr (key x1 (Or.inl hx))
  · exact Or.inr (key x1 (Or.inr hx))
  have hcj : (els κ n k)[j]? = some ((els κ n k)[j]'hj) := List.getElem?_eq_getElem hj
  generalize (els κ n k)[j]'hj = c at hcj
  have hcb : c < 32768 := pow_5 (hE.2.2 c (List.mem_of_getElem? hcj)) hn.2.2.1
  have key2 : ∀ x2, (x2 < 0 ∨ nI n ≤ x2) → lp_x "java/lang/IndexOutOfBoundsException" 1 (fun F M => f_X11_elementAt F (nI j) x2 M) (fun F M => f_X12_elementAt F (nI j) x2 M) IV M := by
    intro x2 hx
    refine lp_x_r 0 0 hO hC hM ?_ (fun M h => ?_)
    · show okp (f_X11_elementAt 0 (nI j) x2 M) _
      unfold f_X11_elementAt f_X11_elementAt_20
      rw [p_nEl_in c1 hj hE.2.1, bx_l, c2]
      rcases hx with hx | hx
      · rw [if_pos hx]
        exact okp_some ⟨rfl, cfr_refl⟩
      · rw [if_neg (fun q => absurd hx (fa_of_lt q).2.1), ite_self]
        exact okp_some ⟨rfl, cfr_refl⟩
    · show okp (f_X12_elementAt 0 (nI j) x2 M) _
      unfold f_X12_elementAt f_X12_elementAt_40 f_X12_elementAt_45
      obtain ⟨M0, e00, h0, hz, g0⟩ := mz0 h; rw [e00]
      rw [p_isEl_in h0.1.2.2.2.1 hj hE.2.1, Option.bind_some, if_neg (by decide), h0.1.2.1, nl_0, nl_1, p_ix_out hx (by omega), Option.bind_some, if_pos (by decide), p_fail]
      exact okp_some (mm_x g0)
  rcases pk_ix x2 (n := n) (by omega) with hx | hx | ⟨i, hi, rfl⟩
  · exact Or.inr (key2 x2 (Or.inl hx))
  · exact Or.inr (key2 x2 (Or.inr hx))
  refine Or.inl (lp_r_r 0 0 (nI (dg c (n - 1 - i))) hO hC hM ?_ (fun M h => ?_))
  · show okp (f_X11_elementAt 0 (nI j) (nI i) M) _
    unfold f_X11_elementAt f_X11_elementAt_20
    rw [p_nEl_in c1 hj hE.2.1, bx_l, c2, if_neg (nI_pos (by omega)), if_pos (nI_lt hi (by omega)), g_ib (by omega) (by omega), nI_clamp (by omega), hC.1.1.2.2.2.2 j c hcj, p_numAt (by omega) (by omega) hi, Option.bind_some]
    exact okp_some ⟨rfl, cfr_refl⟩
  · show okp (f_X12_elementAt 0 (nI j) (nI i) M) _
    unfold f_X12_elementAt f_X12_elementAt_40 f_X12_elementAt_45
    obtain ⟨M0, e00, h0, hz, g0⟩ := mz0 h; rw [e00]
    rw [p_isEl_in h0.1.2.2.2.1 hj hE.2.1, Option.bind_some, if_neg (by decide), h0.1.2.1, nl_0, nl_1, p_ix_in hi (by omega), Option.bind_some, if_neg (by decide), nl_5, pk_mul, nI_add, g_ib (by omega) (by omega), nI_clamp (by omega), h0.1.2.2.2.2.1 j c hcj i hi]
    exact okp_some ⟨rfl, hz, g0⟩
theorem q_5 : lq_5 IV := by
  rintro M x1 ⟨κ, n, k, l, s, hc, hl, hs, b, v, hO, hC, hM⟩
  have hl2 := hO.2.1.1
  have c1 := hC.2.1.1.1
  have key : ∀ x1, (x1 < 0 ∨ nI l ≤ x1) → lp_x "java/lang/IndexOutOfBoundsException" 1 (fun F M => f_X11_symbolAt F x1 M) (fun F M => f_X12_symbolAt F x1 M) IV M := by
    intro x1 hx
    refine lp_x_r 0 0 hO hC hM ?_ (fun M h => ?_)
    · show okp (f_X11_symbolAt 0 x1 M) _
      unfold f_X11_symbolAt
      rw [p_nPos_out c1 hx, bx_r]
      exact okp_some ⟨rfl, cfr_refl⟩
    · show okp (f_X12_symbolAt 0 x1 M) _
      unfold f_X12_symbolAt f_X12_symbolAt_27
      obtain ⟨M0, e00, h0, hz, g0⟩ := mz0 h; rw [e00]
      rw [p_isPos_out h0.2.1.1 hx hl2, Option.bind_some, if_pos (by decide), p_fail]
      exact okp_some (mm_x g0)
  rcases pk_ix x1 (n := l) (by omega) with hx | hx | ⟨j, hj, rfl⟩
  · exact Or.inr (key x1 (Or.inl hx))
  · exact Or.inr (key x1 (Or.inr hx))
  refine Or.inl (lp_r_r 0 0 (nI (s j)) hO hC hM ?_ (fun M h => ?_))
  · show okp (f_X11_symbolAt 0 (nI j) M) _
    unfold f_X11_symbolAt
    rw [p_nPos_in c1 hj hl2, bx_l, g_ib (by omega) (by omega), nI_clamp (by omega), hC.2.1.1.2 j hj]
    exact okp_some ⟨rfl, cfr_refl⟩
  · show okp (f_X12_symbolAt 0 (nI j) M) _
    unfold f_X12_symbolAt f_X12_symbolAt_27
    obtain ⟨M0, e00, h0, hz, g0⟩ := mz0 h; rw [e00]
    rw [p_isPos_in h0.2.1.1 hj hl2, Option.bind_some, if_neg (by decide), g_ib (by omega) (by omega), nI_clamp (by omega), h0.2.1.2.1 j hj]
    exact okp_some ⟨rfl, hz, g0⟩
/-- the class records -/
theorem cc_rem {M : sm_M} {k l : Nat} {s : Nat → Nat} {hc : Nat} {hl : Nat → Nat} {hs : Nat → Nat → Nat} {F : Nat} (hO : okQ k l s hc hl hs) (hC : CQ M l s hc hl hs) : okp (f_X6_remember F 24 M) (fun r => CQ r.2 l s (hup hc) (hcons l hl) (hcons s hs) ∧ rowp r.2 r.1 l s ∧ 28 ≤ r.1 ∧ r.1 + 2 ≤ 52 ∧ fz 26 52 M r.2) := by
  refine okp_mono (p_remember hC.2 hC.1 hO.1) ?_
  rintro r ⟨q1, q2, q3, q4, g1⟩
  exact ⟨⟨rowp_f hC.1 g1 (by omega), q1⟩, q2, q3, q4, g1⟩
theorem mm_rec {M : sm_M} {k l : Nat} {s : Nat → Nat} {hc : Nat} {hl : Nat → Nat} {hs : Nat → Nat → Nat} (hO : okQ k l s hc hl hs) (h : MsQ M l s hc hl hs) : okp (f_X12_record 300 M) (fun M' => MsQ M' l s (hup hc) (hcons l hl) (hcons s hs) ∧ mfr PH M M') := p_record (by omega) h hO.1 hO.2.2.1 (fun j hj => (hO.2.2.2 j hj).1)
theorem mm_rep {M : sm_M} {k l : Nat} {s : Nat → Nat} {hc : Nat} {hl : Nat → Nat} {hs : Nat → Nat → Nat} {l' : Nat} {s' : Nat → Nat} (hO : okQ k l s hc hl hs) (h : MsQ M l s hc hl hs) (hl3 : l' ≤ 240) (hmd : ∀ i, i < l' → M.1 89 i = nI (s' i)) : okp (f_X12_replace 300 (nI l') M) (fun M' => MsQ M' l' s' (hup hc) (hcons l hl) (hcons s hs) ∧ mfr PS M M') := p_replace (by omega) h hO.1 hO.2.2.1 (fun j hj => (hO.2.2.2 j hj).1) hl3 hmd
theorem q_3 : lq_3 IV := by
  rintro M x1 ⟨κ, n, k, l, s, hc, hl, hs, b, v, hO, hC, hM⟩
  have hl2 := hO.2.1.1
  have hk := ok_k hO.1
  have c1 := hC.1.1.2.2.1
  have key : ∀ x1, (x1 < 0 ∨ nI k ≤ x1) → lp_x "java/lang/IllegalArgumentException" 1 (fun F M => f_X11_append F x1 M) (fun F M => f_X12_append F x1 M) IV M := by
    intro x1 hx
    refine lp_x_r 0 0 hO hC hM ?_ (fun M h => ?_)
    · show okp (f_X11_append 0 x1 M) _
      unfold f_X11_append
      rw [p_nSy_out c1 hx, bx_r]
      exact okp_some ⟨rfl, cfr_refl⟩
    · show okp (f_X12_append 0 x1 M) _
      unfold f_X12_append
      obtain ⟨M0, e00, h0, hz, g0⟩ := mz0 h; rw [e00]
      rw [p_isSy_out h0.1.2.2.1 hx hk, Option.bind_some, if_pos (by decide), p_fail]
      exact okp_some (mm_x g0)
  rcases pk_ix x1 (n := k) (by omega) with hx | hx | ⟨j, hj, rfl⟩
  · exact Or.inr (Or.inl (key x1 (Or.inl hx)))
  · exact Or.inr (Or.inl (key x1 (Or.inr hx)))
  by_cases hf : l = 240
  · refine Or.inr (Or.inr (lp_x_r 0 0 hO hC hM ?_ (fun M h => ?_)))
    · show okp (f_X11_append 0 (nI j) M) _
      unfold f_X11_append
      rw [p_nSy_in c1 hj hk, bx_l, hC.2.1.1.1, nl_240, if_neg (nI_nlt (by omega) (by omega))]
      exact okp_some ⟨rfl, cfr_refl⟩
    · show okp (f_X12_append 0 (nI j) M) _
      unfold f_X12_append
      obtain ⟨M0, e00, h0, hz, g0⟩ := mz0 h; rw [e00]
      rw [p_isSy_in h0.1.2.2.1 hj hk, Option.bind_some, if_neg (by decide), h0.2.1.1, hf, nl_240, if_pos (by decide), p_fail]
      exact okp_some (mm_x g0)
  · refine Or.inl (lp_r_q (l' := l + 1) (s' := fun i => if i = l then j else s i) 300 300 (nI (l + 1)) hO hC hM (okQ_rec hO.2.1 (by omega) (fun i hi => ?_)) ?_ (fun M h => ?_))
    · by_cases e : i = l
      · simp only [e, if_true]; exact hj
      · simp only [e, if_false]; exact hO.2.1.2.1 i (by omega)
    · show okp (f_X11_append 300 (nI j) M) _
      unfold f_X11_append
      rw [p_nSy_in c1 hj hk, bx_l, hC.2.1.1.1, nl_240, if_pos (nI_lt (by omega) (by omega))]
      refine okp_bind (cc_rem hO.2.1 hC.2.1) ?_
      rintro ⟨a, M1⟩ ⟨q1, -, -, -, g1⟩
      refine okp_bind (p_push q1.1 (by omega)) ?_
      rintro M2 ⟨r1, g2, -⟩
      exact okp_some ⟨by rw [r1.1], ⟨r1, CH_f q1.2 g2 (by omega)⟩, cfq_tr (cfq_z g1 (by omega)) (cfq_z g2 (by omega))⟩
    · show okp (f_X12_append 300 (nI j) M) _
      unfold f_X12_append
      obtain ⟨M0, e00, h0, hz, g0⟩ := mz0 h; rw [e00]
      rw [p_isSy_in h0.1.2.2.1 hj hk, Option.bind_some, if_neg (by decide), h0.2.1.1, nl_240, if_neg (fun e => hf ((nI_eq (by omega) (by omega)).mp e))]
      refine okp_bind (mm_rec hO.2.1 h0.2.1) ?_
      rintro M1 ⟨⟨q1, q2, q3, q4⟩, g1⟩
      simp (disch := omega) only [q1, nl_0, nl_1, nl_2, nl_3, nl_4, nl_5, nl_7, nl_8, nl_12, nl_48, nl_49, nl_50, nl_200, nl_201, nl_240, nl_30000, nl_m1, nl_m1b, g_ib, g_nz, g_b0, g_b1, vb_0, vb_1, nI_fold, nI_add, pk_mul, nI_leI, nI_ltI, nI_eq, nI_clamp, pk_rem, mN_eq, mN_eq2, mN_self, mN_add, mi_eq, mi_na, mi_ni, mi_2, ml_1, ml_na]
      refine okp_some ⟨rfl, ?_, ⟨?_, fun i hi => ?_, ?_, fun i hi => ?_⟩, ?_⟩
      · simp (disch := omega) only [mi_eq, mi_na, mi_ni, mi_2, ml_1, ml_na]
        rw [g1.1 80 0 (by unfold PH; omega)]
        exact hz
      · simp (disch := omega) only [mi_eq, mi_na, mi_ni, mi_2, ml_1, ml_na]
      · by_cases e : i = l
        · subst e
          simp (disch := omega) only [mi_eq, mi_na, mi_ni, mi_2, ml_1, ml_na, if_true]
        · simp (disch := omega) only [mi_eq, mi_na, mi_ni, mi_2, ml_1, ml_na, if_neg e]
          exact q2 i (by omega)
      · simp (disch := omega) only [mi_eq, mi_na, mi_ni, mi_2, ml_1, ml_na]
        exact q3
      · simp (disch := omega) only [mi_eq, mi_na, mi_ni, mi_2, ml_1, ml_na]
        exact q4 i hi
      · exact mfr_mi (mfr_mi (mfr_tr (mfr_w g0 (fun _ _ => PR_Q)) (mfr_w g1 (fun _ _ => PH_Q))) (by unfold PQ; omega)) (by unfold PQ; omega)
theorem q_4 : lq_4 IV := by
  rintro M x1 x2 ⟨κ, n, k, l, s, hc, hl, hs, b, v, hO, hC, hM⟩
  have hl2 := hO.2.1.1
  have hk := ok_k hO.1
  have c1 := hC.1.1.2.2.1
  have key : ∀ x1, (x1 < 0 ∨ nI l ≤ x1) → lp_x "java/lang/IndexOutOfBoundsException" 1 (fun F M => f_X11_setSymbol F x1 x2 M) (fun F M => f_X12_setSymbol F x1 x2 M) IV M := by
    intro x1 hx
    refine lp_x_r 0 0 hO hC hM ?_ (fun M h => ?_)
    · show okp (f_X11_setSymbol 0 x1 x2 M) _
      unfold f_X11_setSymbol
      rw [p_nPos_out hC.2.1.1.1 hx, bx_r]
      exact okp_some ⟨rfl, cfr_refl⟩
    · show okp (f_X12_setSymbol 0 x1 x2 M) _
      unfold f_X12_setSymbol
      obtain ⟨M0, e00, h0, hz, g0⟩ := mz0 h; rw [e00]
      rw [p_isPos_out h0.2.1.1 hx hl2, Option.bind_some, if_pos (by decide), p_fail]
      exact okp_some (mm_x g0)
  rcases pk_ix x1 (n := l) (by omega) with hx | hx | ⟨p, hp, rfl⟩
  · exact Or.inr (Or.inl (key x1 (Or.inl hx)))
  · exact Or.inr (Or.inl (key x1 (Or.inr hx)))
  have key2 : ∀ x2, (x2 < 0 ∨ nI k ≤ x2) → lp_x "java/lang/IllegalArgumentException" 2 (fun F M => f_X11_setSymbol F (nI p) x2 M) (fun F M => f_X12_setSymbol F (nI p) x2 M) IV M := by
    intro x2 hx
    refine lp_x_r 0 0 hO hC hM ?_ (fun M h => ?_)
    · show okp (f_X11_setSymbol 0 (nI p) x2 M) _
      unfold f_X11_setSymbol
      rw [p_nPos_in hC.2.1.1.1 hp hl2, bx_l, p_nSy_out c1 hx, bx_r]
      exact okp_some ⟨rfl, cfr_refl⟩
    · show okp (f_X12_setSymbol 0 (nI p) x2 M) _
      unfold f_X12_setSymbol
      obtain ⟨M0, e00, h0, hz, g0⟩ := mz0 h; rw [e00]
      rw [p_isPos_in h0.2.1.1 hp hl2, Option.bind_some, if_neg (by decide), p_isSy_out h0.1.2.2.1 hx hk, Option.bind_some, if_pos (by decide), p_fail]
      exact okp_some (mm_x g0)
  rcases pk_ix x2 (n := k) (by omega) with hx | hx | ⟨j, hj, rfl⟩
  · exact Or.inr (Or.inr (key2 x2 (Or.inl hx)))
  · exact Or.inr (Or.inr (key2 x2 (Or.inr hx)))
  refine Or.inl (lp_r_q (l' := l) (s' := fun i => if i = p then j else s i) 300 300 (nI (s p)) hO hC hM (okQ_rec hO.2.1 (by omega) (fun i hi => ?_)) ?_ (fun M h => ?_))
  · by_cases e : i = p
    · simp only [e, if_true]; exact hj
    · simp only [e, if_false]; exact hO.2.1.2.1 i (by omega)
  · show okp (f_X11_setSymbol 300 (nI p) (nI j) M) _
    unfold f_X11_setSymbol
    rw [p_nPos_in hC.2.1.1.1 hp hl2, bx_l, p_nSy_in c1 hj hk, bx_l]
    refine okp_bind (cc_rem hO.2.1 hC.2.1) ?_
    rintro ⟨a, M1⟩ ⟨q1, -, -, -, g1⟩
    have e25 : M1.1 25 p = nI (s p) := q1.1.2 p hp
    simp (disch := omega) only [nl_0, nl_1, nl_2, nl_3, nl_4, nl_5, nl_7, nl_8, nl_12, nl_48, nl_49, nl_50, nl_200, nl_201, nl_240, nl_30000, nl_m1, nl_m1b, g_ib, g_nz, g_b0, g_b1, vb_0, vb_1, nI_fold, nI_add, pk_mul, nI_leI, nI_ltI, nI_eq, nI_clamp, pk_rem, mN_eq, mN_eq2, mN_self, mN_add, mi_eq, mi_na, mi_ni, mi_2, ml_1, ml_na, e25]
    refine okp_some ⟨rfl, ⟨⟨?_, fun i hi => ?_⟩, CH_f (lo := 25) (hi := 26) q1.2 (fz_mi (by omega) (by omega)) (by omega)⟩, cfq_tr (cfq_z g1 (by omega)) (cfq_z (fz_mi (l := 25) (h := 26) (by omega) (by omega)) (by omega))⟩
    · rw [mi_na (by omega)]
      exact q1.1.1
    · by_cases e : i = p
      · subst e
        simp (disch := omega) only [mi_eq, mi_na, mi_ni, mi_2, ml_1, ml_na, if_true]
      · simp (disch := omega) only [mi_eq, mi_na, mi_ni, mi_2, ml_1, ml_na, if_neg e]
        exact q1.1.2 i hi
  · show okp (f_X12_setSymbol 300 (nI p) (nI j) M) _
    unfold f_X12_setSymbol
    obtain ⟨M0, e00, h0, hz, g0⟩ := mz0 h; rw [e00]
    rw [p_isPos_in h0.2.1.1 hp hl2, Option.bind_some, if_neg (by decide), p_isSy_in h0.1.2.2.1 hj hk, Option.bind_some, if_neg (by decide), g_ib (by omega) (by omega)]
    refine okp_bind (mm_rec hO.2.1 h0.2.1) ?_
    rintro M1 ⟨⟨q1, q2, q3, q4⟩, g1⟩
    simp (disch := omega) only [nl_0, nl_1, nl_2, nl_3, nl_4, nl_5, nl_7, nl_8, nl_12, nl_48, nl_49, nl_50, nl_200, nl_201, nl_240, nl_30000, nl_m1, nl_m1b, g_ib, g_nz, g_b0, g_b1, vb_0, vb_1, nI_fold, nI_add, pk_mul, nI_leI, nI_ltI, nI_eq, nI_clamp, pk_rem, mN_eq, mN_eq2, mN_self, mN_add, mi_eq, mi_na, mi_ni, mi_2, ml_1, ml_na, h0.2.1.2.1 p hp]
    refine okp_some ⟨rfl, ?_, ⟨?_, fun i hi => ?_, ?_, fun i hi => ?_⟩, ?_⟩
    · simp (disch := omega) only [mi_eq, mi_na, mi_ni, mi_2, ml_1, ml_na]
      rw [g1.1 80 0 (by unfold PH; omega)]
      exact hz
    · simp (disch := omega) only [mi_eq, mi_na, mi_ni, mi_2, ml_1, ml_na]
      exact q1
    · by_cases e : i = p
      · subst e
        simp (disch := omega) only [mi_eq, mi_na, mi_ni, mi_2, ml_1, ml_na, if_true]
      · simp (disch := omega) only [mi_eq, mi_na, mi_ni, mi_2, ml_1, ml_na, if_neg e]
        exact q2 i (by omega)
    · simp (disch := omega) only [mi_eq, mi_na, mi_ni, mi_2, ml_1, ml_na]
      exact q3
    · simp (disch := omega) only [mi_eq, mi_na, mi_ni, mi_2, ml_1, ml_na]
      exact q4 i hi
    · exact mfr_mi (mfr_tr (mfr_w g0 (fun _ _ => PR_Q)) (mfr_w g1 (fun _ _ => PH_Q))) (by unfold PQ; omega)
theorem q_7 : lq_7 IV := by
  rintro M ⟨κ, n, k, l, s, hc, hl, hs, b, v, hO, hC, hM⟩
  refine lp_d_q (l' := 0) (s' := s) 300 300 (nI l) hO hC hM (okQ_rec hO.2.1 (by omega) (fun i hi => by omega)) ?_ (fun M h => ?_)
  · show okp (f_X11_clear 300 M) _
    unfold f_X11_clear
    refine okp_bind (cc_rem hO.2.1 hC.2.1) ?_
    rintro ⟨a, M1⟩ ⟨q1, q2, q3, q4, g1⟩
    have e1 : (sm_mi M1 24 1 0).1 a 1 = nI l := by
      rw [mi_na (by show a ≠ 24; omega)]
      exact q2.1
    show okp (some ((sm_mi M1 24 1 0).1 a 1, _)) _
    rw [e1]
    exact okp_some ⟨rfl, ⟨⟨mi_eq _ _ _ _, fun i hi => by omega⟩, CH_f (lo := 24) (hi := 25) q1.2 (fz_mi (by omega) (by omega)) (by omega)⟩, cfq_tr (cfq_z g1 (by omega)) (cfq_z (fz_mi (l := 24) (h := 25) (by omega) (by omega)) (by omega))⟩
  · show okp (f_X12_clear 300 M) _
    unfold f_X12_clear
    obtain ⟨M0, e00, h0, hz, g0⟩ := mz0 h; rw [e00]
    refine okp_bind (mm_rep (l' := 0) (s' := s) hO.2.1 h0.2.1 (by omega) (fun i hi => by omega)) ?_
    rintro M1 ⟨q1, g1⟩
    exact okp_some ⟨h0.2.1.1, q1, mfr_tr (mfr_w g0 (fun _ _ => PR_Q)) (mfr_w g1 (fun _ _ => PS_Q))⟩
