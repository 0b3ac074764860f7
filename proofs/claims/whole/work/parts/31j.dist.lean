/-! ===== distance, componentOf: the calls ===== -/
theorem cc_sp {M : sm_M} {κ n k l : Nat} {s : Nat → Nat} {hc : Nat} {hl : Nat → Nat} {hs : Nat → Nat → Nat} {b : Bf} {v : Sv} {j : Nat} (hO : Ok κ n k l s hc hl hs b v) (hC : CF M κ n k) (k3 : κ ≠ 3) (hj : j < (vts κ n k).length) : okp (f_X4_spread 500 9 13 22 200 (nI j) M) (fun M' => (∀ v, v < (vts κ n k).length → M'.1 22 v = oI (dd (at0 (gF κ n k)) (at0 (gT κ n k)) (els κ n k).length j (vts κ n k).length v)) ∧ sfr 22 M M') := by
  have vl := (vts_ok hO.1 k3).2.1
  have gr := hC.2 k3
  exact cc_spread (by omega) (Or.inl rfl) (Or.inl rfl) (Or.inr rfl) (els_ok hO.1).2.1 (by omega) gr.1.1 gr.2.1 (fun e he => (g_lt hO.1 k3 he).1) (fun e he => ⟨gr.2.2.1.1 e he, (g_lt hO.1 k3 he).2⟩) hj
theorem cc_spb {M : sm_M} {κ n k l : Nat} {s : Nat → Nat} {hc : Nat} {hl : Nat → Nat} {hs : Nat → Nat → Nat} {b : Bf} {v : Sv} {j : Nat} (hO : Ok κ n k l s hc hl hs b v) (hC : CF M κ n k) (k3 : κ ≠ 3) (hj : j < (vts κ n k).length) : okp (f_X4_spread 500 13 9 23 200 (nI j) M) (fun M' => (∀ v, v < (vts κ n k).length → M'.1 23 v = oI (dd (at0 (gT κ n k)) (at0 (gF κ n k)) (els κ n k).length j (vts κ n k).length v)) ∧ sfr 23 M M') := by
  have vl := (vts_ok hO.1 k3).2.1
  have gr := hC.2 k3
  exact cc_spread (by omega) (Or.inr rfl) (Or.inr rfl) (Or.inl rfl) (els_ok hO.1).2.1 (by omega) gr.1.1 gr.2.2.1 (fun e he => (g_lt hO.1 k3 he).2) (fun e he => ⟨gr.2.1.1 e he, (g_lt hO.1 k3 he).1⟩) hj
theorem mm_fd {M : sm_M} {κ n k l : Nat} {s : Nat → Nat} {hc : Nat} {hl : Nat → Nat} {hs : Nat → Nat → Nat} {b : Bf} {v : Sv} {j : Nat} {M1 : sm_M} (hO : Ok κ n k l s hc hl hs b v) (h0 : MA M κ n k l s hc hl hs b v) (k3 : κ ≠ 3) (hj : j < (vts κ n k).length) (g : mfr PW M M1) : okp (f_X12_findDistances 500 (nI j) M1) (fun M' => (∀ v, v < (vts κ n k).length → M'.1 95 v = oI (dd (at0 (gF κ n k)) (at0 (gT κ n k)) (els κ n k).length j (vts κ n k).length v)) ∧ mfr PW M M') := by
  have vl := (vts_ok hO.1 k3).2.1
  have h1 := MA_w h0 g
  have h7 := h1.1.2.2.2.2.2.2 k3
  refine okp_mono (p_mfd (by omega) (els_ok hO.1).2.1 (by omega) h7.1 h1.1.2.2.2.1 (fun e he => ⟨(h7.2 e he).1, (g_lt hO.1 k3 he).1⟩) (fun e he => ⟨(h7.2 e he).2, (g_lt hO.1 k3 he).2⟩) hj) ?_
  rintro M' ⟨r1, r2⟩
  exact ⟨r1, mfr_W g (fz_w r2 (by omega) (by omega))⟩
theorem sfr_c {M M' : sm_M} {a : Nat} (h : sfr a M M') (ha : a = 22 ∨ a = 23) : cfr M M' := fun x hx => h x (by omega) (by omega)
theorem CF_s {M M' : sm_M} {κ n k a : Nat} (h : CF M κ n k) (g : sfr a M M') (ha : a = 22 ∨ a = 23) : CF M' κ n k := CF_c h (fun x _ _ => (g x (by omega) (by omega)).1)
theorem q_35 : lq_35 IV := by
  rintro M x1 x2 ⟨κ, n, k, l, s, hc, hl, hs, b, v, hO, hC, hM⟩
  have hκ := (okF_of hO.1).1
  by_cases k3 : κ = 3
  · subst k3
    refine Or.inr (Or.inl (lp_x_r 0 0 hO hC hM ?_ (fun M h => ?_)))
    · show okp (f_X11_distance 0 x1 x2 M) _
      unfold f_X11_distance
      rw [p_ng3 hC.1.1.1, bx_r]
      exact okp_some ⟨rfl, cfr_refl⟩
    · show okp (f_X12_distance 0 x1 x2 M) _
      unfold f_X12_distance
      obtain ⟨M0, e00, h0, hz, g0⟩ := mz0 h; rw [e00]
      rw [h0.1.1, if_pos (by decide), p_fail]
      exact okp_some (mm_x g0)
  · have gr := hC.1.2 k3
    have vl := (vts_ok hO.1 k3).2.1
    have key : ∀ x1, (x1 < 0 ∨ nI (vts κ n k).length ≤ x1) → lp_x "java/lang/IndexOutOfBoundsException" 2 (fun F M => f_X11_distance F x1 x2 M) (fun F M => f_X12_distance F x1 x2 M) IV M := by
      intro x1 hx
      refine lp_x_r 0 0 hO hC hM ?_ (fun M h => ?_)
      · show okp (f_X11_distance 0 x1 x2 M) _
        unfold f_X11_distance
        rw [p_ng hC.1.1.1 hκ k3, bx_l, p_nV_out gr.1.1 hx, bx_r]
        exact okp_some ⟨rfl, cfr_refl⟩
      · show okp (f_X12_distance 0 x1 x2 M) _
        unfold f_X12_distance f_X12_distance_35
        obtain ⟨M0, e00, h0, hz, g0⟩ := mz0 h; rw [e00]
        rw [h0.1.1, if_neg (n3 hκ k3), p_isV_out (h0.1.2.2.2.2.2.2 k3).1 hx (by omega), Option.bind_some, if_pos (by decide), p_fail]
        exact okp_some (mm_x g0)
    rcases pk_ix x1 (n := (vts κ n k).length) (by omega) with hx | hx | ⟨j, hj, rfl⟩
    · exact Or.inr (Or.inr (Or.inl (key x1 (Or.inl hx))))
    · exact Or.inr (Or.inr (Or.inl (key x1 (Or.inr hx))))
    have key2 : ∀ x2, (x2 < 0 ∨ nI (vts κ n k).length ≤ x2) → lp_x "java/lang/IndexOutOfBoundsException" 2 (fun F M => f_X11_distance F (nI j) x2 M) (fun F M => f_X12_distance F (nI j) x2 M) IV M := by
      intro x2 hx
      refine lp_x_r 0 0 hO hC hM ?_ (fun M h => ?_)
      · show okp (f_X11_distance 0 (nI j) x2 M) _
        unfold f_X11_distance
        rw [p_ng hC.1.1.1 hκ k3, bx_l, p_nV_in gr.1.1 hj (by omega), bx_l, p_nV_out gr.1.1 hx, bx_r]
        exact okp_some ⟨rfl, cfr_refl⟩
      · show okp (f_X12_distance 0 (nI j) x2 M) _
        unfold f_X12_distance f_X12_distance_35
        obtain ⟨M0, e00, h0, hz, g0⟩ := mz0 h; rw [e00]
        rw [h0.1.1, if_neg (n3 hκ k3), p_isV_in (h0.1.2.2.2.2.2.2 k3).1 hj (by omega), Option.bind_some, if_neg (by decide), p_isV_out (h0.1.2.2.2.2.2.2 k3).1 hx (by omega), Option.bind_some, if_pos (by decide), p_fail]
        exact okp_some (mm_x g0)
    rcases pk_ix x2 (n := (vts κ n k).length) (by omega) with hx | hx | ⟨i, hi, rfl⟩
    · exact Or.inr (Or.inr (Or.inl (key2 x2 (Or.inl hx))))
    · exact Or.inr (Or.inr (Or.inl (key2 x2 (Or.inr hx))))
    cases hd : dd (at0 (gF κ n k)) (at0 (gT κ n k)) (els κ n k).length j (vts κ n k).length i with
    | none =>
      refine Or.inr (Or.inr (Or.inr (lp_x_r 500 500 hO hC hM ?_ (fun M h => ?_))))
      · show okp (f_X11_distance 500 (nI j) (nI i) M) _
        unfold f_X11_distance f_X4_walkLength
        rw [p_ng hC.1.1.1 hκ k3, bx_l, p_nV_in gr.1.1 hj (by omega), bx_l, p_nV_in gr.1.1 hi (by omega), bx_l]
        obtain ⟨M1, e1, q1, g1⟩ := cc_sp hO hC.1 k3 hj
        rw [e1, Option.bind_some, g_ib (by omega) (by omega), nI_clamp (by omega), q1 i hi, hd, Option.bind_some]
        refine okp_t rfl (okp_some ⟨rfl, sfr_c g1 (Or.inl rfl)⟩)
      · show okp (f_X12_distance 500 (nI j) (nI i) M) _
        unfold f_X12_distance f_X12_distance_70
        obtain ⟨M0, e00, h0, hz, g0⟩ := mz0 h; rw [e00]
        rw [h0.1.1, if_neg (n3 hκ k3), p_isV_in (h0.1.2.2.2.2.2.2 k3).1 hj (by omega), Option.bind_some, if_neg (by decide), p_isV_in (h0.1.2.2.2.2.2.2 k3).1 hi (by omega), Option.bind_some, if_neg (by decide)]
        refine okp_bind (mm_fd hO h0 k3 hj mfr_refl) ?_
        rintro M1 ⟨q1, g1⟩
        rw [g_ib (by omega) (by omega), nI_clamp (by omega), q1 i hi, hd]
        refine okp_t rfl ?_
        rw [p_fail]
        exact okp_some (mm_x (mfr_tr g0 (mfr_w g1 (fun _ _ => PW_R))))
    | some d =>
      have db := (dd_le hd).1
      refine Or.inl (lp_r_r 500 500 (nI d) hO hC hM ?_ (fun M h => ?_))
      · show okp (f_X11_distance 500 (nI j) (nI i) M) _
        unfold f_X11_distance f_X4_walkLength
        rw [p_ng hC.1.1.1 hκ k3, bx_l, p_nV_in gr.1.1 hj (by omega), bx_l, p_nV_in gr.1.1 hi (by omega), bx_l]
        obtain ⟨M1, e1, q1, g1⟩ := cc_sp hO hC.1 k3 hj
        rw [e1, Option.bind_some, g_ib (by omega) (by omega), nI_clamp (by omega), q1 i hi, hd, Option.bind_some]
        refine okp_f (fun q => (mN_eq (show d < 2 ^ 31 by omega)).mp q) (okp_some ⟨rfl, sfr_c g1 (Or.inl rfl)⟩)
      · show okp (f_X12_distance 500 (nI j) (nI i) M) _
        unfold f_X12_distance f_X12_distance_70
        obtain ⟨M0, e00, h0, hz, g0⟩ := mz0 h; rw [e00]
        rw [h0.1.1, if_neg (n3 hκ k3), p_isV_in (h0.1.2.2.2.2.2.2 k3).1 hj (by omega), Option.bind_some, if_neg (by decide), p_isV_in (h0.1.2.2.2.2.2.2 k3).1 hi (by omega), Option.bind_some, if_neg (by decide)]
        refine okp_bind (mm_fd hO h0 k3 hj mfr_refl) ?_
        rintro M1 ⟨q1, g1⟩
        rw [g_ib (by omega) (by omega), g_ib (by omega) (by omega), nI_clamp (by omega), q1 i hi, hd]
        refine okp_f (fun q => (mN_eq (show d < 2 ^ 31 by omega)).mp q) ?_
        exact okp_some (mm_w (r := (nI d, M1)) g0 hz ⟨rfl, g1⟩)
def cmb (E T : Nat → Nat) (m V j x : Nat) : Bool := (dd E T m j V x).isSome && (dd E T m x V j).isSome
theorem isS {o : Option Nat} : o.isSome = true ↔ o ≠ none := by cases o <;> simp
theorem dd_rev {E T : Nat → Nat} {m V j x : Nat} (hE : ∀ e, e < m → E e < V ∧ T e < V) (hj : j < V) (hx : x < V) : (dd T E m j V x).isSome = (dd E T m x V j).isSome := by
  rw [Bool.eq_iff_iff, isS, isS, dok_rch (dd_dok (fun e he => ⟨(hE e he).2, (hE e he).1⟩) hj), dok_rch (dd_dok hE hx)]
  exact ⟨rch_rev, rch_rev⟩
theorem q_36 : lq_36 IV := by
  rintro M x1 ⟨κ, n, k, l, s, hc, hl, hs, b, v, hO, hC, hM⟩
  have hκ := (okF_of hO.1).1
  by_cases k3 : κ = 3
  · subst k3
    refine Or.inr (Or.inl (lp_x_r 0 0 hO hC hM ?_ (fun M h => ?_)))
    · show okp (f_X11_componentOf 0 x1 M) _
      unfold f_X11_componentOf
      rw [p_ng3 hC.1.1.1, bx_r]
      exact okp_some ⟨rfl, cfr_refl⟩
    · show okp (f_X12_componentOf 0 x1 M) _
      unfold f_X12_componentOf f_X12_componentOf_21 f_X12_componentOf_35
      obtain ⟨M0, e00, h0, hz, g0⟩ := mz0 h; rw [e00]
      rw [h0.1.1, if_pos (by decide), if_pos (by decide), p_fail]
      exact okp_some (mm_x g0)
  · have gr := hC.1.2 k3
    have vl := (vts_ok hO.1 k3).2.1
    have key : ∀ x1, (x1 < 0 ∨ nI (vts κ n k).length ≤ x1) → lp_x "java/lang/IndexOutOfBoundsException" 2 (fun F M => f_X11_componentOf F x1 M) (fun F M => f_X12_componentOf F x1 M) IV M := by
      intro x1 hx
      refine lp_x_r 0 0 hO hC hM ?_ (fun M h => ?_)
      · show okp (f_X11_componentOf 0 x1 M) _
        unfold f_X11_componentOf
        rw [p_ng hC.1.1.1 hκ k3, bx_l, p_nV_out gr.1.1 hx, bx_r]
        exact okp_some ⟨rfl, cfr_refl⟩
      · show okp (f_X12_componentOf 0 x1 M) _
        unfold f_X12_componentOf f_X12_componentOf_21 f_X12_componentOf_35
        obtain ⟨M0, e00, h0, hz, g0⟩ := mz0 h; rw [e00]
        rw [h0.1.1, if_neg (n3 hκ k3), p_isV_out (h0.1.2.2.2.2.2.2 k3).1 hx (by omega), Option.bind_some, if_pos (by decide), if_neg (n3 hκ k3), p_fail]
        exact okp_some (mm_x g0)
    rcases pk_ix x1 (n := (vts κ n k).length) (by omega) with hx | hx | ⟨j, hj, rfl⟩
    · exact Or.inr (Or.inr (key x1 (Or.inl hx)))
    · exact Or.inr (Or.inr (key x1 (Or.inr hx)))
    have hEV : ∀ e, e < (els κ n k).length → at0 (gF κ n k) e < (vts κ n k).length ∧ at0 (gT κ n k) e < (vts κ n k).length := fun e he => g_lt hO.1 k3 he
    generalize hP : cmb (at0 (gF κ n k)) (at0 (gT κ n k)) (els κ n k).length (vts κ n k).length j = P
    have d31 : ∀ (E T : Nat → Nat) (a c : Nat), ∀ e, dd E T (els κ n k).length a (vts κ n k).length c = some e → e < 2 ^ 31 := fun E T a c e he => by have := (dd_le he).1; omega
    have oN : ∀ (o : Option Nat), (∀ e, o = some e → e < 2 ^ 31) → (oI o = (-1 : Int32) ↔ o.isSome = false) := fun o ho => by
      have h1 := oI_eq (b := none) ho (fun _ h => by cases h)
      constructor
      · intro q
        rw [h1.mp q]
        rfl
      · intro q
        cases o with
        | none => rfl
        | some e => cases q
    refine Or.inl (lp_r_r 500 500 (nI (fa_first P j)) hO hC hM ?_ (fun M h => ?_))
    · show okp (f_X11_componentOf 500 (nI j) M) _
      unfold f_X11_componentOf f_X4_lowestOfComponent
      rw [p_ng hC.1.1.1 hκ k3, bx_l, p_nV_in gr.1.1 hj (by omega), bx_l]
      obtain ⟨M1, e1, q1, g1⟩ := cc_sp hO hC.1 k3 hj
      obtain ⟨M2, e2, q2, g2⟩ := cc_spb hO (CF_s hC.1 g1 (Or.inl rfl)) k3 hj
      rw [e1, Option.bind_some, e2, Option.bind_some]
      have lp : ∀ (z o : Nat), j < z + o → o ≤ j → (∀ x, x < o → P x = false) → f_X4_lowestOfComponent_36 500 z (nI j) (nI o) M2 = some (nI (fa_first P j), M2) := by
        intro z
        induction z with
        | zero => intro o a b; omega
        | succ z ih =>
          intro o a1 a2 a3
          show f_X4_lowestOfComponent_36b 500 (f_X4_lowestOfComponent_36 500 z) _ _ _ = _
          unfold f_X4_lowestOfComponent_36b f_X4_lowestOfComponent_63
          by_cases c : j ≤ o
          · have e9 : o = j := by omega
            subst e9
            rw [if_pos (nI_le c (by omega)), fst_all a3]
          · have r22 : M2.1 22 o = oI (dd (at0 (gF κ n k)) (at0 (gT κ n k)) (els κ n k).length j (vts κ n k).length o) := by rw [(g2 22 (by omega) (by omega)).1]; exact q1 o (by omega)
            have rv := dd_rev (j := j) (x := o) hEV hj (by omega)
            have hPo : P o = ((dd (at0 (gF κ n k)) (at0 (gT κ n k)) (els κ n k).length j (vts κ n k).length o).isSome && (dd (at0 (gT κ n k)) (at0 (gF κ n k)) (els κ n k).length j (vts κ n k).length o).isSome) := by
              rw [← hP, rv]
              rfl
            rw [if_neg (nI_ge (by omega) (by omega)), g_ib (by omega) (by omega), g_ib (by omega) (by omega), nI_clamp (by omega), r22, q2 o (by omega), i1]
            have go : P o = false → f_X4_lowestOfComponent_36 500 z (nI j) (nI (o + 1)) M2 = some (nI (fa_first P j), M2) := fun q => by
              refine ih (o + 1) (by omega) (by omega) (fun x hx => ?_)
              by_cases r : x = o
              · rw [r]; exact q
              · exact a3 x (by omega)
            cases b1 : (dd (at0 (gF κ n k)) (at0 (gT κ n k)) (els κ n k).length j (vts κ n k).length o).isSome with
            | false =>
              rw [if_pos ((oN _ (d31 _ _ _ _)).mpr b1)]
              exact go (by rw [hPo, b1]; rfl)
            | true =>
              rw [if_neg (fun q => by have := (oN _ (d31 _ _ _ _)).mp q; rw [b1] at this; cases this)]
              cases b2 : (dd (at0 (gT κ n k)) (at0 (gF κ n k)) (els κ n k).length j (vts κ n k).length o).isSome with
              | false =>
                rw [if_pos ((oN _ (d31 _ _ _ _)).mpr b2)]
                exact go (by rw [hPo, b2, Bool.and_false])
              | true =>
                rw [if_neg (fun q => by have := (oN _ (d31 _ _ _ _)).mp q; rw [b2] at this; cases this), fst_at (by omega) a3 (by rw [hPo, b1, b2]; rfl)]
      rw [nl_0, lp 500 0 (by omega) (by omega) (fun x hx => by omega), Option.bind_some]
      exact okp_some ⟨rfl, cfr_tr (sfr_c g1 (Or.inl rfl)) (sfr_c g2 (Or.inr rfl))⟩
    · show okp (f_X12_componentOf 500 (nI j) M) _
      unfold f_X12_componentOf
      obtain ⟨M0, e00, h0, hz, g0⟩ := mz0 h; rw [e00]
      rw [h0.1.1, if_neg (n3 hκ k3), p_isV_in (h0.1.2.2.2.2.2.2 k3).1 hj (by omega), Option.bind_some, if_neg (by decide)]
      have lp : ∀ (z o : Nat) (M : sm_M), j < z + o → o ≤ j → mfr PW M0 M → (∀ x, x < o → P x = false) → okp (f_X12_componentOf_41 500 z (nI j) (nI o) M) (fun r => r.1 = nI (fa_first P j) ∧ mfr PW M0 r.2) := by
        intro z
        induction z with
        | zero => intro o M a b; omega
        | succ z ih =>
          intro o M a1 a2 g a3
          show okp (f_X12_componentOf_41b 500 (f_X12_componentOf_41 500 z) _ _ _) _
          unfold f_X12_componentOf_41b f_X12_componentOf_66 f_X12_componentOf_88
          by_cases c : j ≤ o
          · have e9 : o = j := by omega
            subst e9
            rw [if_pos (nI_le c (by omega))]
            exact okp_some ⟨by rw [fst_all a3], g⟩
          · rw [if_neg (nI_ge (by omega) (by omega)), i1]
            refine okp_bind (mm_fd hO h0 k3 hj g) ?_
            rintro M1 ⟨q1, g1⟩
            rw [g_ib (by omega) (by omega), nI_clamp (by omega), q1 o (by omega)]
            have hPo : P o = ((dd (at0 (gF κ n k)) (at0 (gT κ n k)) (els κ n k).length j (vts κ n k).length o).isSome && (dd (at0 (gF κ n k)) (at0 (gT κ n k)) (els κ n k).length o (vts κ n k).length j).isSome) := by
              rw [← hP]
              rfl
            have go : ∀ M2, mfr PW M0 M2 → P o = false → okp (f_X12_componentOf_41 500 z (nI j) (nI (o + 1)) M2) (fun r => r.1 = nI (fa_first P j) ∧ mfr PW M0 r.2) := fun M2 gg q => by
              refine ih (o + 1) M2 (by omega) (by omega) gg (fun x hx => ?_)
              by_cases r : x = o
              · rw [r]; exact q
              · exact a3 x (by omega)
            cases b1 : (dd (at0 (gF κ n k)) (at0 (gT κ n k)) (els κ n k).length j (vts κ n k).length o).isSome with
            | false =>
              rw [if_pos ((oN _ (d31 _ _ _ _)).mpr b1)]
              refine okp_bind (mm_fd hO h0 k3 (show o < (vts κ n k).length by omega) g1) ?_
              rintro M2 ⟨q2, g2⟩
              exact okp_t rfl (go M2 g2 (by rw [hPo, b1]; rfl))
            | true =>
              rw [if_neg (fun q => by have := (oN _ (d31 _ _ _ _)).mp q; rw [b1] at this; cases this)]
              refine okp_bind (mm_fd hO h0 k3 (show o < (vts κ n k).length by omega) g1) ?_
              rintro M2 ⟨q2, g2⟩
              refine okp_f (by decide) ?_
              rw [g_ib (by omega) (by omega), nI_clamp (by omega), q2 j hj]
              cases b2 : (dd (at0 (gF κ n k)) (at0 (gT κ n k)) (els κ n k).length o (vts κ n k).length j).isSome with
              | false =>
                rw [if_pos ((oN _ (d31 _ _ _ _)).mpr b2)]
                exact go M2 g2 (by rw [hPo, b2, Bool.and_false])
              | true =>
                rw [if_neg (fun q => by have := (oN _ (d31 _ _ _ _)).mp q; rw [b2] at this; cases this)]
                exact okp_some ⟨by rw [fst_at (by omega) a3 (by rw [hPo, b1, b2]; rfl)], g2⟩
      exact okp_mono (lp 500 0 M0 (by omega) (by omega) mfr_refl (fun x hx => by omega)) (fun r q => mm_w g0 hz q)
