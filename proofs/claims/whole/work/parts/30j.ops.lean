/-! ===== calls on the sequence and the buffers ===== -/
def PZ (a j : Nat) : Prop := (a = 80 ∧ (j = 12 ∨ j = 15)) ∨ (86 ≤ a ∧ a ≤ 89) ∨ (92 ≤ a ∧ a ≤ 100)
theorem PZ_Q {a j : Nat} (h : PZ a j) : PQ a j := by unfold PZ at h; unfold PQ; omega
theorem PS_Z {a j : Nat} (h : PS a j) : PZ a j := by unfold PS at h; unfold PZ; omega
theorem PW_Z {a j : Nat} (h : PW a j) : PZ a j := by unfold PW at h; unfold PZ; omega
theorem MA_w {M : sm_M} {κ n k l : Nat} {s : Nat → Nat} {hc : Nat} {hl : Nat → Nat} {hs : Nat → Nat → Nat} {b : Bf} {v : Sv} {M' : sm_M} (h : MA M κ n k l s hc hl hs b v) (g : mfr PW M M') : MA M' κ n k l s hc hl hs b v := by
  have g : mfr PR M M' := mfr_w g (fun _ _ => PW_R)
  exact MA_q h (mfr_w g (fun _ _ => PR_Q)) (MsQ_r h.2.1 g)
theorem mm_z {x : Int32} {M M0 : sm_M} {r : Int32 × sm_M} {l' : Nat} {s' : Nat → Nat} {hc' : Nat} {hl' : Nat → Nat} {hs' : Nat → Nat → Nat} (g0 : mfr PR M M0) (hz : M0.1 80 0 = 0) (h : r.1 = x ∧ MsQ r.2 l' s' hc' hl' hs' ∧ mfr PZ M0 r.2) : r.1 = x ∧ r.2.1 80 0 = 0 ∧ MsQ r.2 l' s' hc' hl' hs' ∧ mfr PQ M r.2 := ⟨h.1, by rw [h.2.2.1 80 0 (by unfold PZ; omega)]; exact hz, h.2.1, mfr_tr (mfr_w g0 (fun _ _ => PR_Q)) (mfr_w h.2.2 (fun _ _ => PZ_Q))⟩
theorem mm_zd {x : Int32} {M M0 : sm_M} {r : Int32 × sm_M} {l' : Nat} {s' : Nat → Nat} {hc' : Nat} {hl' : Nat → Nat} {hs' : Nat → Nat → Nat} (g0 : mfr PR M M0) (h : r.1 = x ∧ MsQ r.2 l' s' hc' hl' hs' ∧ mfr PZ M0 r.2) : r.1 = x ∧ MsQ r.2 l' s' hc' hl' hs' ∧ mfr PQ M r.2 := ⟨h.1, h.2.1, mfr_tr (mfr_w g0 (fun _ _ => PR_Q)) (mfr_w h.2.2 (fun _ _ => PZ_Q))⟩
theorem mm_w {x : Int32} {M M0 : sm_M} {r : Int32 × sm_M} (g0 : mfr PR M M0) (hz : M0.1 80 0 = 0) (h : r.1 = x ∧ mfr PW M0 r.2) : r.1 = x ∧ r.2.1 80 0 = 0 ∧ mfr PR M r.2 := ⟨h.1, by rw [h.2.1 80 0 (by unfold PW; omega)]; exact hz, mfr_tr g0 (mfr_w h.2 (fun _ _ => PW_R))⟩
/-- made, then replaced -/
theorem mm_made {M : sm_M} {κ n k l : Nat} {s : Nat → Nat} {hc : Nat} {hl : Nat → Nat} {hs : Nat → Nat → Nat} {b : Bf} {v : Sv} {M1 : sm_M} {s' : Nat → Nat} {l' : Nat} (hO : okQ k l s hc hl hs) (h0 : MA M κ n k l s hc hl hs b v) (g : mfr PW M M1) (hl3 : l' ≤ 240) (hmd : ∀ i, i < l' → M1.1 89 i = nI (s' i)) : okp (f_X12_replace 300 (nI l') M1) (fun M' => MsQ M' l' s' (hup hc) (hcons l hl) (hcons s hs) ∧ mfr PZ M M') := okp_mono (mm_rep hO (MA_w h0 g).2.1 hl3 hmd) (fun _ q => ⟨q.1, mfr_tr (mfr_w g (fun _ _ => PW_Z)) (mfr_w q.2 (fun _ _ => PS_Z))⟩)
theorem cc_set {M1 M2 : sm_M} {l : Nat} {s s' : Nat → Nat} {hc' : Nat} {hl' : Nat → Nat} {hs' : Nat → Nat → Nat} (q1 : CQ M1 l s hc' hl' hs') (h : ∀ j, j < l → M2.1 25 j = nI (s' j)) (g : fz 25 26 M1 M2) : CQ M2 l s' hc' hl' hs' := ⟨⟨by rw [fz_1 g (by omega)]; exact q1.1.1, h⟩, CH_f q1.2 g (by omega)⟩
theorem i1 (i : Nat) : nI i + 1 = nI (i + 1) := nI_1 i
/-! undo -/
theorem p_undo43 {F r l : Nat} (hr : r < 12) (hl : l ≤ 240) : ∀ (m i : Nat) (M : sm_M), l < m + i → i ≤ l → M.1 80 12 = nI l → M.1 80 15 = nI r → okp (f_X12_undo_43 F m (nI i) M) (fun q => q.1 = nI l ∧ (∀ j, i ≤ j → j < l → q.2.1 86 j = M.1 87 (240 * r + j)) ∧ (∀ a j, (a = 86 → j < i) → q.2.1 a j = M.1 a j) ∧ q.2.2 = M.2) := by
  intro m
  induction m with
  | zero => intro i M h1 h2; omega
  | succ m ih =>
    intro i M h1 h2 h3 h4
    show okp (f_X12_undo_43b F (f_X12_undo_43 F m) _ _) _
    unfold f_X12_undo_43b
    rw [h3, h4, nl_240]
    by_cases h : l ≤ i
    · rw [if_pos (nI_le h (by omega))]
      exact okp_some ⟨rfl, fun j a b => by omega, fun _ _ _ => rfl, rfl⟩
    · rw [if_neg (nI_ge (by omega) (by omega)), pk_mul, nI_add, g_ib (by omega) (by omega), g_ib (by omega) (by omega), nI_clamp (by omega), nI_clamp (by omega), i1]
      refine okp_mono (ih (i + 1) _ (by omega) (by omega) (by rw [mi_na (by omega)]; exact h3) (by rw [mi_na (by omega)]; exact h4)) ?_
      rintro q ⟨a1, a2, a3, a4⟩
      refine ⟨a1, fun j b1 b2 => ?_, fun a j e2 => ?_, a4⟩
      · by_cases e : j = i
        · subst e
          rw [a3 86 _ (by omega), mi_eq]
        · rw [a2 j (by omega) b2, mi_na (by omega)]
      · rw [a3 a j (by omega)]
        by_cases e : a = 86
        · subst e
          have := e2 rfl
          exact mi_ni (by omega)
        · rw [mi_na e]
theorem q_8 : lq_8 IV := by
  rintro M ⟨κ, n, k, l, s, hc, hl, hs, b, v, hO, hC, hM⟩
  obtain ⟨nw, -, -, c3, -⟩ := id hC.2.1.2
  cases hc with
  | zero =>
    refine Or.inr (lp_x_r 0 0 hO hC hM ?_ (fun M h => ?_))
    · show okp (f_X11_undo 0 M) _
      unfold f_X11_undo
      rw [c3, if_pos (by decide)]
      exact okp_some ⟨rfl, cfr_refl⟩
    · show okp (f_X12_undo 0 M) _
      unfold f_X12_undo
      obtain ⟨M0, e00, h0, hz, g0⟩ := mz0 h; rw [e00]
      rw [h0.2.1.2.2.1, if_pos (by decide), p_fail]
      exact okp_some (mm_x g0)
  | succ hc =>
    have hh := hO.2.1.2.2.2 0 (by omega)
    have hcc := hO.2.1.2.2.1
    refine Or.inl (lp_r_q (l' := hl 0) (s' := hs 0) (hc' := hc) (hl' := fun j => hl (j + 1)) (hs' := fun j => hs (j + 1)) 300 300 (nI (hl 0)) hO hC hM ⟨hh.1, hh.2, by omega, fun j hj => hO.2.1.2.2.2 (j + 1) (by omega)⟩ ?_ (fun M h => ?_))
    · show okp (f_X11_undo 300 M) _
      unfold f_X11_undo
      rw [c3, if_neg (nI_ne0 (by omega) (by omega))]
      refine okp_bind (p_takeInto hC.2.1.2 hh.1) ?_
      rintro M1 ⟨q1, q2, g1⟩
      exact okp_some ⟨by rw [q2.1], ⟨q2, q1⟩, cfq_z g1 (by omega)⟩
    · show okp (f_X12_undo 300 M) _
      unfold f_X12_undo
      obtain ⟨M0, e00, h0, hz, g0⟩ := mz0 h; rw [e00]
      have d1 := h0.2.1.2.2.1
      obtain ⟨d2, d3⟩ := h0.2.1.2.2.2 0 (by omega)
      have e0 : hc + 1 - 1 - 0 = hc := by omega
      rw [e0] at d2 d3
      rw [d1, if_neg (nI_ne0 (by omega) (by omega)), nl_1, pk_sub (by omega), Nat.add_sub_cancel, mi_eq, g_ib (by omega) (by omega), nI_clamp (by omega), mi_na (by omega), d2]
      refine okp_mono (p_undo43 (r := hc) (l := hl 0) (by omega) hh.1 300 0 _ (by omega) (by omega) (by rw [mi_eq]) (by rw [mi_ni (by omega), mi_eq])) ?_
      rintro r ⟨a1, a2, a3, a4⟩
      refine mm_z g0 hz ⟨a1, ⟨?_, fun i hi => ?_, ?_, fun j hj => ?_⟩, ?_⟩
      · rw [a3 80 12 (by omega), mi_eq]
      · rw [a2 i (by omega) hi, mi_na (by omega), mi_na (by omega)]
        exact d3 i hi
      · rw [a3 80 15 (by omega), mi_ni (by omega), mi_eq]
      · obtain ⟨b1, b2⟩ := h0.2.1.2.2.2 (j + 1) (by omega)
        have e1 : hc + 1 - 1 - (j + 1) = hc - 1 - j := by omega
        rw [e1] at b1 b2
        refine ⟨?_, fun i hi => ?_⟩
        · rw [a3 88 _ (by omega), mi_na (by omega), mi_na (by omega)]
          exact b1
        · rw [a3 87 _ (by omega), mi_na (by omega), mi_na (by omega)]
          exact b2 i hi
      · refine ⟨fun a j hp => ?_, by rw [a4]; rfl⟩
        rw [a3 a j (fun e => absurd (show PZ a j by unfold PZ; omega) hp), mi_1, if_neg (fun e => hp (by unfold PZ; omega)), mi_1, if_neg (fun e => hp (by unfold PZ; omega))]
/-! characters -/
theorem vc_c {q : Nat} (h : q < 65536) : vp_nar .char (nI q) = nI q := by
  unfold vp_nar
  rw [(pk_charN h).1]
theorem g_ch {α : Type} {q : Nat} {k : Option α} (h : q < 65536) : sm_g (sm_nar .char (nI q)) k = k := by
  apply g_t
  unfold sm_nar
  rw [(pk_charN h).1, (pk_charN h).2]
  simp
theorem wr_ch {a : Nat} (h : a < 8) : vp_nar .char (((48 : Int32) + nI a).toUInt32 % 65536).toInt32 = nI (48 + a) := by
  rw [nl_48, nI_add, pk_vc, pk_char, pk_tn (by omega), Nat.mod_eq_of_lt (by omega)]
theorem q_9 : lq_9 IV := by
  rintro M x1 ⟨κ, n, k, l, s, hc, hl, hs, b, v, hO, hC, hM⟩
  obtain ⟨fi, inp, fo, out⟩ := b
  have hfi : fi ≤ 240 := hO.2.2.1.1
  have c1 : M.1 0 10 = nI fi := hC.2.2.1.1
  rw [pk_char]
  generalize hcx : x1.toBitVec.toNat % 65536 = c
  have hc6 : c < 65536 := by omega
  by_cases hf : fi = 240
  · refine Or.inr (lp_x_r 0 0 hO hC hM ?_ (fun M h => ?_))
    · show okp (f_X11_feed 0 (nI c) M) _
      unfold f_X11_feed
      rw [c1, nl_240, if_neg (nI_nlt (by omega) (by omega))]
      exact okp_some ⟨rfl, cfr_refl⟩
    · show okp (f_X12_feed 0 (nI c) M) _
      unfold f_X12_feed
      obtain ⟨M0, e00, h0, hz, g0⟩ := mz0 h; rw [e00]
      have e : M0.1 80 18 = nI fi := h0.2.2.1.1
      rw [e, hf, nl_240, if_pos (by decide), p_fail]
      exact okp_some (mm_x g0)
  · refine Or.inl (lp_r_g (b' := (fi + 1, fun i => if i = fi then c else inp i, fo, out)) 0 0 (nI (fi + 1)) hM ⟨hO.1, hO.2.1, ⟨by show fi + 1 ≤ 240; omega, hO.2.2.1.2.1, fun i hi => ?_, hO.2.2.1.2.2.2⟩, hO.2.2.2⟩ ?_ (fun M h => ?_))
    · show (if i = fi then c else inp i) < 65536
      by_cases e : i = fi
      · rw [if_pos e]; exact hc6
      · rw [if_neg e]
        exact hO.2.2.1.2.2.1 i (by have : i < fi + 1 := hi; show i < fi; omega)
    · show okp (f_X11_feed 0 (nI c) M) _
      unfold f_X11_feed
      rw [c1, nl_240, if_pos (nI_lt (by omega) (by omega)), g_ib (by omega) (by omega), nI_clamp (by omega), vc_c hc6, mi_eq, mi_na (by omega), c1, i1]
      refine okp_some ⟨rfl, ⟨CF_c hC.1 (fun x _ _ => ?_), CQ_c hC.2.1 (fun x _ _ => ?_), ⟨mi_eq _ _ _ _, fun i hi => ?_, ?_, fun i hi => ?_⟩, CV_c hC.2.2.2 (fun j _ _ => ?_) ?_ ?_⟩, fun a ha => ?_⟩
      · rw [mi_na (by omega), mi_na (by omega)]
      · rw [mi_na (by omega), mi_na (by omega)]
      · show _ = nI (if i = fi then c else inp i)
        by_cases e : i = fi
        · subst e
          rw [mi_na (by omega), mi_eq, if_pos rfl]
        · rw [mi_na (by omega), mi_ni e, if_neg e]
          exact hC.2.2.1.2.1 i (by have : i < fi + 1 := hi; show i < fi; omega)
      · rw [mi_ni (by omega), mi_na (by omega)]
        exact hC.2.2.1.2.2.1
      · rw [mi_na (by omega), mi_na (by omega)]
        exact hC.2.2.1.2.2.2 i hi
      · rw [mi_ni (by omega), mi_na (by omega)]
      · rw [mi_na (by omega), mi_na (by omega)]
      · rw [mi_na (by omega), mi_na (by omega)]
      · rw [mi_na (by omega), mi_na (by omega)]
    · show okp (f_X12_feed 0 (nI c) M) _
      unfold f_X12_feed
      obtain ⟨M0, e00, h0, hz, g0⟩ := mz0 h; rw [e00]
      have d1 : M0.1 80 18 = nI fi := h0.2.2.1.1
      rw [d1, nl_240, if_neg (fun e => hf ((nI_eq (by omega) (by omega)).mp e)), g_ib (by omega) (by omega), nI_clamp (by omega), vc_c hc6, mi_eq, mi_na (by omega), d1, nl_1, nI_add]
      refine okp_some ⟨rfl, ?_, ⟨MF_c h0.1 (fun j _ _ => ?_) (fun x _ _ => ?_), MsQ_c h0.2.1 ?_ ?_ (fun x _ _ => ?_), ⟨mi_eq _ _ _ _, fun i hi => ?_, ?_, fun i hi => ?_⟩, MV_c h0.2.2.2 (fun j _ _ => ?_) ?_⟩, mfr_mi (mfr_mi (mfr_w g0 (fun _ _ h => PQ_A (PR_Q h))) (by unfold PA; omega)) (by unfold PA; omega)⟩
      · rw [mi_ni (by omega), mi_na (by omega)]
        exact hz
      · rw [mi_ni (by omega), mi_na (by omega)]
      · rw [mi_na (by omega), mi_na (by omega)]
      · rw [mi_ni (by omega), mi_na (by omega)]
      · rw [mi_ni (by omega), mi_na (by omega)]
      · rw [mi_na (by omega), mi_na (by omega)]
      · show _ = nI (if i = fi then c else inp i)
        by_cases e : i = fi
        · subst e
          rw [mi_na (by omega), mi_eq, if_pos rfl]
        · rw [mi_na (by omega), mi_ni e, if_neg e]
          exact h0.2.2.1.2.1 i (by have : i < fi + 1 := hi; show i < fi; omega)
      · rw [mi_ni (by omega), mi_na (by omega)]
        exact h0.2.2.1.2.2.1
      · rw [mi_na (by omega), mi_na (by omega)]
        exact h0.2.2.1.2.2.2 i hi
      · rw [mi_ni (by omega), mi_na (by omega)]
      · rw [mi_na (by omega), mi_na (by omega)]
theorem q_12 : lq_12 IV := by
  rintro M x1 ⟨κ, n, k, l, s, hc, hl, hs, b, v, hO, hC, hM⟩
  obtain ⟨fi, inp, fo, out⟩ := b
  have hfo : fo ≤ 240 := hO.2.2.1.2.1
  have c1 : M.1 0 12 = nI fo := hC.2.2.1.2.2.1
  have key : ∀ x1, (x1 < 0 ∨ nI fo ≤ x1) → lp_x "java/lang/IndexOutOfBoundsException" 1 (fun F M => f_X11_outputAt F x1 M) (fun F M => f_X12_outputAt F x1 M) IV M := by
    intro x1 hx
    refine lp_x_r 0 0 hO hC hM ?_ (fun M h => ?_)
    · show okp (f_X11_outputAt 0 x1 M) _
      unfold f_X11_outputAt f_X11_outputAt_12
      rw [c1]
      rcases hx with hx | hx
      · rw [if_pos hx]
        exact okp_some ⟨rfl, cfr_refl⟩
      · rw [if_neg (c := x1 < nI fo) (fun q => absurd hx (fa_of_lt q).2.1), ite_self]
        exact okp_some ⟨rfl, cfr_refl⟩
    · show okp (f_X12_outputAt 0 x1 M) _
      unfold f_X12_outputAt f_X12_outputAt_34
      obtain ⟨M0, e00, h0, hz, g0⟩ := mz0 h; rw [e00]
      have e : M0.1 80 20 = nI fo := h0.2.2.1.2.2.1
      rw [e, nl_0, nl_1, p_ix_out hx (by omega), Option.bind_some, if_pos (by decide), p_fail, Option.bind_some]
      have e2 : ((nI 0).toUInt32 % 65536).toInt32 = nI 0 := by decide
      show okp (sm_g (sm_nar .char ((nI 0).toUInt32 % 65536).toInt32) (some (((nI 0).toUInt32 % 65536).toInt32, _))) _
      rw [e2, g_ch (by omega)]
      exact okp_some (mm_x g0)
  rcases pk_ix x1 (n := fo) (by omega) with hx | hx | ⟨j, hj, rfl⟩
  · exact Or.inr (key x1 (Or.inl hx))
  · exact Or.inr (key x1 (Or.inr hx))
  have hb := hO.2.2.1.2.2.2 j hj
  refine Or.inl (lp_r_r 0 0 (nI (out j)) hO hC hM ?_ (fun M h => ?_))
  · show okp (f_X11_outputAt 0 (nI j) M) _
    unfold f_X11_outputAt
    have e : M.1 77 j = nI (out j) := hC.2.2.1.2.2.2 j hj
    rw [c1, if_neg (nI_pos (by omega)), if_pos (nI_lt hj (by omega)), g_ib (by omega) (by omega), nI_clamp (by omega), e, g_ch hb]
    exact okp_some ⟨rfl, cfr_refl⟩
  · show okp (f_X12_outputAt 0 (nI j) M) _
    unfold f_X12_outputAt f_X12_outputAt_34
    obtain ⟨M0, e00, h0, hz, g0⟩ := mz0 h; rw [e00]
    have e : M0.1 80 20 = nI fo := h0.2.2.1.2.2.1
    have e2 : M0.1 91 j = nI (out j) := h0.2.2.1.2.2.2 j hj
    rw [e, nl_0, nl_1, p_ix_in hj (by omega), Option.bind_some, if_neg (by decide), g_ib (by omega) (by omega), nI_clamp (by omega), e2, g_ch hb]
    exact okp_some ⟨rfl, hz, g0⟩
