/-! ===== useCircuit: the answer ===== -/
theorem mm_use0 {M M1 : sm_M} {x : Int32} {r : Int32 × sm_M} {l' : Nat} {s' : Nat → Nat} {hc' : Nat} {hl' : Nat → Nat} {hs' : Nat → Nat → Nat} (g0 : mfr PR M M1) (hz : M1.1 80 0 = 0) (h : r.1 = x ∧ MsQ r.2 l' s' hc' hl' hs' ∧ mfr PZ M1 r.2) : r.1 = x ∧ r.2.1 80 0 = 0 ∧ MsQ r.2 l' s' hc' hl' hs' ∧ mfr PQ M r.2 := ⟨h.1, by rw [h.2.2.1 80 0 (by unfold PZ; omega)]; exact hz, h.2.1, mfr_tr (mfr_w g0 (fun _ _ => PR_Q)) (mfr_w h.2.2 (fun _ _ => PZ_Q))⟩
theorem fam_e1 : famAll (fun κ n k => decide (0 < (els κ n k).length)) = true := by decide +kernel
theorem q_39 : lq_39 IV := by
  rintro M ⟨κ, n, k, l, s, hc, hl, hs, b, v, hO, hC, hM⟩
  obtain ⟨o1, o2, o3, o4, o5, -, -⟩ := okF_of hO.1
  have hE := (els_ok hO.1).2.1
  by_cases k3 : κ = 3
  · subst k3
    refine Or.inr (Or.inl (lp_x_r 0 0 hO hC hM ?_ (fun M h => ?_)))
    · show okp (f_X11_useCircuit 0 M) _
      unfold f_X11_useCircuit
      rw [p_ng3 hC.1.1.1, bx_r]
      exact okp_some ⟨rfl, cfr_refl⟩
    · show okp (f_X12_useCircuit 0 M) _
      unfold f_X12_useCircuit
      obtain ⟨M0, e00, h0, hz, g0⟩ := mz0 h; rw [e00]
      rw [h0.1.1, if_pos (by decide), p_fail, Option.bind_some]
      exact okp_some (mm_x g0)
  · have gr := hC.1.2 k3
    have mw : ∀ {M0 M1 : sm_M}, fz 96 100 M0 M1 → mfr PW M0 M1 := fun g => mfr_W mfr_refl (fz_w g (by omega) (by omega))
    by_cases hcir : (cirL κ n k).length = (els κ n k).length
    · have bt : bI (decide ((cirL κ n k).length = (els κ n k).length)) = nI 1 := by rw [decide_eq_true hcir]; rfl
      by_cases k1 : κ = 1
      · subst k1
        have hE0 : 0 < (els 1 n k).length := of_decide_eq_true (fam_of fam_e1 hO.1)
        obtain ⟨z, r, u1, u2, u3, u4⟩ := ord_fam hO.1
        have hoc : ∀ M1 : sm_M, MA M1 1 n k l s hc hl hs b v → (∀ i x, (cirL 1 n k)[i]? = some x → M1.1 99 i = nI x) → oci M1 (els 1 n k).length n (cP n) (at0 (cirL 1 n k)) := fun M1 h1 h99 p hp => by
          obtain ⟨c1, c2, c3, c4, c5⟩ := cel_ok hO.1 k3 hcir hp
          exact ⟨h99 p _ c1, by omega, fun a ha => ⟨h1.1.2.2.2.2.1 _ _ c3 a ha, dg_lt _ _⟩⟩
        have cls := cc_up hO.1 hC.1 hcir hE0 u2 u3 u1
        rcases u4 with ⟨u, w, rfl, hw, ho⟩ | ⟨rfl, hf⟩
        · refine Or.inl (lp_r_q (l' := (els 1 n k).length) (s' := w) 1000 1000 (nI (popn (mskn w (els 1 n k).length) 8)) hO hC hM (okQ_rec hO.2.1 (by omega) (fun i hi => (hw i hi).2)) ?_ (fun M h => ?_))
          · show okp (f_X11_useCircuit 1000 M) _
            unfold f_X11_useCircuit
            rw [p_ng hC.1.1.1 o1 k3, bx_l, p_nC gr, if_pos hcir, bx_l]
            refine okp_bind cls ?_
            rintro ⟨y, M7⟩ ⟨g7, q7, r7⟩
            simp only at g7 q7 r7
            subst q7
            refine okp_f (show ¬ nI 1 = (0 : Int32) by decide) ?_
            exact cc_useEnd hO.2.1 hC.2.1 g7 ⟨r7.1, fun i hi => by rw [r7.2 i hi, (hw i hi).1]⟩ hE (fun i hi => by have := (hw i hi).2; omega)
          · show okp (f_X12_useCircuit 1000 M) _
            unfold f_X12_useCircuit f_X12_useCircuit_53
            obtain ⟨M0, e00, h0, hz, g0⟩ := mz0 h; rw [e00]
            rw [h0.1.1, if_neg (n3 o1 k3)]
            refine okp_bind (mm_circ hO h0 k3 (by omega)) ?_
            rintro ⟨x1, M1⟩ ⟨q1, q2, g1⟩
            have q1' : x1 = nI 1 := by rw [← bt]; exact q1
            subst q1'
            have h1 := MA_w h0 (mw g1)
            have z1 : M1.1 80 0 = 0 := by rw [fz_1 g1 (by omega)]; exact hz
            refine okp_f (show ¬ nI 1 = (0 : Int32) by decide) ?_
            refine okp_t (show M1.1 80 1 = (1 : Int32) from h1.1.1) ?_
            refine okp_bind (p_order (by omega) hE hE0 o3 (by omega) h1.1.2.1 h1.1.2.2.2.1 (hoc M1 h1 (q2 hcir))) ?_
            rintro ⟨x2, M2⟩ ⟨-, g2, w', r3, r4, -, r5⟩
            obtain ⟨e1, e2⟩ := r5 z w ho u3
            simp only at e1 g2 r3
            subst e1
            subst e2
            have gp : mfr PW M1 M2 := mfr_fz mfr_refl g2 (fun a j _ _ => by unfold PW; omega) (by omega)
            have h2 := MA_w h1 gp
            refine okp_f (show ¬ nI 1 = (0 : Int32) by decide) ?_
            refine okp_mono (mm_useEnd (M := M) hO h2 k3 (fun i hi => (hw i hi).2) (fun q => absurd rfl q) hcir (fun i x hx => by rw [fz_1 g2 (by omega)]; exact q2 hcir i x hx) 1000 0 M2 (by omega) (by omega) fz_refl (fun j _ hj => r3 j hj)) ?_
            exact fun r q => mm_use0 (mfr_tr g0 (mfr_w (mfr_tr (mw g1) gp) (fun _ _ => PW_R))) (by rw [fz_1 g2 (by omega)]; exact z1) q
        · refine Or.inr (Or.inr (lp_x_r 1000 1000 hO hC hM ?_ (fun M h => ?_)))
          · show okp (f_X11_useCircuit 1000 M) _
            unfold f_X11_useCircuit
            rw [p_ng hC.1.1.1 o1 k3, bx_l, p_nC gr, if_pos hcir, bx_l]
            refine okp_bind cls ?_
            rintro ⟨y, M7⟩ ⟨g7, q7⟩
            simp only at g7 q7
            subst q7
            refine okp_t rfl ?_
            exact okp_some ⟨rfl, cfr_z g7 (by omega)⟩
          · show okp (f_X12_useCircuit 1000 M) _
            unfold f_X12_useCircuit f_X12_useCircuit_53
            obtain ⟨M0, e00, h0, hz, g0⟩ := mz0 h; rw [e00]
            rw [h0.1.1, if_neg (n3 o1 k3)]
            refine okp_bind (mm_circ hO h0 k3 (by omega)) ?_
            rintro ⟨x1, M1⟩ ⟨q1, q2, g1⟩
            have q1' : x1 = nI 1 := by rw [← bt]; exact q1
            subst q1'
            have h1 := MA_w h0 (mw g1)
            refine okp_f (show ¬ nI 1 = (0 : Int32) by decide) ?_
            refine okp_t (show M1.1 80 1 = (1 : Int32) from h1.1.1) ?_
            refine okp_bind (p_order (by omega) hE hE0 o3 (by omega) h1.1.2.1 h1.1.2.2.2.1 (hoc M1 h1 (q2 hcir))) ?_
            rintro ⟨x2, M2⟩ ⟨r1, g2, w', r3, r4, r6, r5⟩
            simp only at r1 g2 r3
            have gp : mfr PW M1 M2 := mfr_fz mfr_refl g2 (fun a j _ _ => by unfold PW; omega) (by omega)
            have gt : mfr PR M M2 := mfr_tr g0 (mfr_w (mfr_tr (mw g1) gp) (fun _ _ => PW_R))
            have h2 := MA_w h1 gp
            have hex : ∃ i, 0 ≤ i ∧ i < (els 1 n k).length ∧ k ≤ w' i := by
              rcases hf with ⟨i, i1, i2⟩ | ⟨w, ho, i, i1, i2⟩
              · exact ⟨i, Nat.zero_le _, i1, Nat.le_trans i2 (r6 i)⟩
              · obtain ⟨-, e2⟩ := r5 z w ho u3
                subst e2
                exact ⟨i, Nat.zero_le _, i1, i2⟩
            rcases r1 with r1 | r1
            · subst r1
              refine okp_t rfl ?_
              rw [p_fail, Option.bind_some]
              exact okp_some (mm_x gt)
            · subst r1
              refine okp_f (show ¬ nI 1 = (0 : Int32) by decide) ?_
              refine okp_mono (mm_useFail (M := M) hO h2 rfl r4 1000 0 M2 (by omega) (by omega) fz_refl r3 hex) ?_
              rintro r ⟨w1, w2⟩
              exact ⟨w1, mfr_tr gt w2⟩
      · have kke : kk κ n k = k := if_neg k1
        have hw : ∀ i, i < (els κ n k).length → dg (cel κ n k i) (n - 1) < k := fun i hi => by
          have := (cel_ok hO.1 k3 hcir hi).2.2.2.2 (n - 1) (by omega)
          rwa [kke] at this
        refine Or.inl (lp_r_q (l' := (els κ n k).length) (s' := fun i => dg (cel κ n k i) (n - 1)) 1000 1000 (nI (popn (mskn (fun i => dg (cel κ n k i) (n - 1)) (els κ n k).length) 8)) hO hC hM (okQ_rec hO.2.1 (by omega) hw) ?_ (fun M h => ?_))
        · show okp (f_X11_useCircuit 1000 M) _
          unfold f_X11_useCircuit f_X9_unfold
          rw [p_ng hC.1.1.1 o1 k3, bx_l, p_nC gr, if_pos hcir, bx_l, gr.2.2.2.1]
          have g6 : fz 65 66 M (sm_mi M 65 1 (nI (els κ n k).length)) := fz_mi (by omega) (by omega)
          generalize hM6 : sm_mi M 65 1 (nI (els κ n k).length) = M6 at g6
          have e65 : M6.1 65 1 = nI (els κ n k).length := by rw [← hM6, mi_eq]
          have hC6 : CF M6 κ n k := CF_c hC.1 (fun x _ _ => fz_1 g6 (by omega))
          rw [fz_1 g6 (show 1 < 65 ∨ 66 ≤ 1 by omega), hC.1.1.1, if_neg (show ¬ nI κ = (1 : Int32) from fun q => k1 ((nI_eq (b := 1) (by omega) (by omega)).mp q))]
          refine okp_bind (cc_unf hO.1 k3 hC6 hcir e65 1000 0 M6 (by omega) (by omega) fz_refl (fun j hj => by omega)) ?_
          rintro ⟨y, M7⟩ ⟨q7, r7, g7⟩
          simp only at g7 q7 r7
          subst q7
          refine okp_f (show ¬ nI 1 = (0 : Int32) by decide) ?_
          exact cc_useEnd hO.2.1 hC.2.1 (fz_tr g6 g7 (by omega) (by omega) (by omega) (by omega)) ⟨by rw [fz_1 g7 (by omega)]; exact e65, r7⟩ hE (fun i hi => by have := hw i hi; omega)
        · show okp (f_X12_useCircuit 1000 M) _
          unfold f_X12_useCircuit f_X12_useCircuit_53
          obtain ⟨M0, e00, h0, hz, g0⟩ := mz0 h; rw [e00]
          rw [h0.1.1, if_neg (n3 o1 k3)]
          refine okp_bind (mm_circ hO h0 k3 (by omega)) ?_
          rintro ⟨x1, M1⟩ ⟨q1, q2, g1⟩
          have q1' : x1 = nI 1 := by rw [← bt]; exact q1
          subst q1'
          have h1 := MA_w h0 (mw g1)
          have z1 : M1.1 80 0 = 0 := by rw [fz_1 g1 (by omega)]; exact hz
          refine okp_f (show ¬ nI 1 = (0 : Int32) by decide) ?_
          refine okp_f (show ¬ M1.1 80 1 = (1 : Int32) from fun q => k1 ((nI_eq (b := 1) (by omega) (by omega)).mp (h1.1.1.symm.trans q))) ?_
          refine okp_mono (mm_useEnd (M := M) (w := fun i => dg (cel κ n k i) (n - 1)) hO h1 k3 hw (fun _ i _ => rfl) hcir (q2 hcir) 1000 0 M1 (by omega) (by omega) fz_refl (fun j hj hj2 => by omega)) ?_
          exact fun r q => mm_use0 (mfr_tr g0 (mfr_w (mw g1) (fun _ _ => PW_R))) z1 q
    · have bt : bI (decide ((cirL κ n k).length = (els κ n k).length)) = nI 0 := by rw [decide_eq_false hcir]; rfl
      refine Or.inr (Or.inr (lp_x_r 1000 1000 hO hC hM ?_ (fun M h => ?_)))
      · show okp (f_X11_useCircuit 1000 M) _
        unfold f_X11_useCircuit
        rw [p_ng hC.1.1.1 o1 k3, bx_l, p_nC gr, if_neg hcir, bx_r]
        exact okp_some ⟨rfl, cfr_refl⟩
      · show okp (f_X12_useCircuit 1000 M) _
        unfold f_X12_useCircuit
        obtain ⟨M0, e00, h0, hz, g0⟩ := mz0 h; rw [e00]
        rw [h0.1.1, if_neg (n3 o1 k3)]
        refine okp_bind (mm_circ hO h0 k3 (by omega)) ?_
        rintro ⟨x1, M1⟩ ⟨q1, q2, g1⟩
        have q1' : x1 = nI 0 := by rw [← bt]; exact q1
        subst q1'
        refine okp_t rfl ?_
        rw [p_fail, Option.bind_some]
        exact okp_some (mm_x (mfr_tr g0 (mfr_w (mw g1) (fun _ _ => PW_R))))
theorem q_all : lq_all IV := ⟨q_0, q_1, q_2, q_3, q_4, q_5, q_6, q_7, q_8, q_9, q_10, q_11, q_12, q_13, q_14, q_15, q_16, q_17, q_18, q_19, q_20, q_21, q_22, q_23, q_24, q_25, q_26, q_27, q_28, q_29, q_30, q_31, q_32, q_33, q_34, q_35, q_36, q_37, q_38, q_39, q_40, q_41⟩
