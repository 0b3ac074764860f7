/-! ===== circuitCount ===== -/
theorem c_o8 {V : Nat} (hV : V ≤ 8) (hV1 : 1 ≤ V) : (if (8 : Int32) < nI V then (8 : Int32) else nI V) - (1 : Int32) = nI (V - 1) := by
  rw [if_neg (show ¬ (8 : Int32) < nI V from fun q => absurd (nI_le (a := V) (b := 8) hV (by omega)) (fa_of_lt q).2.1), nl_1, pk_sub hV1]
theorem q_37 : lq_37 IV := by
  rintro M ⟨κ, n, k, l, s, hc, hl, hs, b, v, hO, hC, hM⟩
  have hκ := (okF_of hO.1).1
  have hE := (els_ok hO.1).2.1
  by_cases k3 : κ = 3
  · subst k3
    refine Or.inr (Or.inl (lp_x_r 0 0 hO hC hM ?_ (fun M h => ?_)))
    · show okp (f_X11_circuitCount 0 M) _
      unfold f_X11_circuitCount
      rw [p_ng3 hC.1.1.1, bx_r]
      exact okp_some ⟨rfl, cfr_refl⟩
    · show okp (f_X12_circuitCount 0 M) _
      unfold f_X12_circuitCount f_X12_circuitCount_22
      obtain ⟨M0, e00, h0, hz, g0⟩ := mz0 h; rw [e00]
      rw [h0.1.1, if_pos (by decide), p_fail, Option.bind_some]
      exact okp_some (mm_x g0)
  · have gr := hC.1.2 k3
    have vl := (vts_ok hO.1 k3).2.1
    have v1 := vts_pos hO.1 k3
    have mw : ∀ {M0 M1 : sm_M}, fz 96 100 M0 M1 → mfr PW M0 M1 := fun g => mfr_W mfr_refl (fz_w g (by omega) (by omega))
    by_cases v8 : (vts κ n k).length ≤ 8
    · have v8' : nI (vts κ n k).length ≤ (8 : Int32) := nI_le (b := 8) v8 (by omega)
      by_cases hcir : (cirL κ n k).length = (els κ n k).length
      · have bt : bI (decide ((cirL κ n k).length = (els κ n k).length)) = nI 1 := by rw [decide_eq_true hcir]; rfl
        obtain ⟨Z, x, z1, z2, z3, z4⟩ := det_fam hO.1 k3 v8 v1 hcir
        have cls : okp (f_X0_count 500 M) (fun r => r.1 = (pvl (fun v => eqc (at0 (gF κ n k)) v (els κ n k).length) (vts κ n k).length 9 0 x).getD (-1) ∧ cfr M r.2) := by
          unfold f_X0_count f_X0_determinant
          rw [gr.1.1, c_o8 v8 v1]
          refine okp_bind (cc_fm (E := at0 (gF κ n k)) (T := at0 (gT κ n k)) (by omega) hE (by omega) gr.2.2.2.1 (fun e he => ⟨gr.2.1.1 e he, by have := (g_lt hO.1 k3 he).1; omega⟩) (fun e he => ⟨gr.2.2.1.1 e he, by have := (g_lt hO.1 k3 he).2; omega⟩)) ?_
          rintro M1 ⟨m1, g1, e1⟩
          refine okp_bind (p_d5 (M0 := M1) (by omega) (by omega) 500 0 9 1 (fun i j => Int64.ofInt (Z (i + 1) (j + 1))) M1 (by omega) (by omega) (by omega) (by decide) fz_refl rfl (fun i j hi hj => ?_)) ?_
          · rw [m1 i j hi hj]
            exact z1 (i + 1) (j + 1) (by omega) (by omega)
          · rintro ⟨y, M2⟩ ⟨r1, g2, e2⟩
            simp only at r1 g2 e2
            rw [z3] at r1
            subst r1
            have hf : fanp M2 9 (at0 (gF κ n k)) (els κ n k).length (vts κ n k).length := fanp_c gr.2.1 (fun a _ _ => by rw [e2, e1])
            refine okp_mono (p_c30 (by omega) hf hE v8 v1 500 0 9 y (by omega) (by omega) (by omega)) ?_
            rintro r ⟨w1, w2⟩
            refine ⟨w2, ?_⟩
            rw [w1]
            exact cfr_tr (cfr_z g1 (by omega)) (cfr_z g2 (by omega))
        have ref : ∀ M0, MA M0 κ n k l s hc hl hs b v → okp ((f_X12_findCircuit 500 M0).bind fun q3 => if q3.1 = 0 then ((f_X12_fail 500 (2 : Int32) q3.2).bind fun q5 => some (q5.1.toInt64, q5.2)) else (f_X12_circuitCount_45 500 500 (0 : Int32) q3.2)) (fun r => ∃ M', mfr PW M0 M' ∧ (∀ y, pvl (fun v => eqc (at0 (gF κ n k)) v (els κ n k).length) (vts κ n k).length 9 0 x = some y → r = (y, M')) ∧ (pvl (fun v => eqc (at0 (gF κ n k)) v (els κ n k).length) (vts κ n k).length 9 0 x = none → r.2 = sm_mi M' 80 0 3)) := by
          intro M0 h0
          refine okp_bind (mm_circ hO h0 k3 (by omega)) ?_
          rintro ⟨x1, M1⟩ ⟨q1, q2, g1⟩
          have q1' : x1 = nI 1 := by rw [← bt]; exact q1
          subst q1'
          have h1 := MA_w h0 (mw g1)
          refine okp_f (show ¬ nI 1 = (0 : Int32) by decide) ?_
          have hET : ∀ e, e < (els κ n k).length → (M1.1 84 e = nI (at0 (gF κ n k) e) ∧ at0 (gF κ n k) e < (vts κ n k).length) ∧ M1.1 85 e = nI (at0 (gT κ n k) e) ∧ at0 (gT κ n k) e < (vts κ n k).length := fun e he => ⟨⟨((h1.1.2.2.2.2.2.2 k3).2 e he).1, (g_lt hO.1 k3 he).1⟩, ((h1.1.2.2.2.2.2.2 k3).2 e he).2, (g_lt hO.1 k3 he).2⟩
          refine p_m45 (M0 := M1) (by omega) hE v8 h1.1.2.2.2.1 hET ?_ 500 0 M1 (by omega) (by omega) fz_refl rfl (fun j hj => by omega)
          intro M2 g2 e2 m2
          have h7 : M2.1 80 7 = nI (vts κ n k).length := by rw [e2]; exact (h1.1.2.2.2.2.2.2 k3).1
          have hmn : f_X12_minor 500 (1 : Int32) (0 : Int32) M2 = some x := by
            unfold f_X12_minor
            exact (p_mnR (A := fun i j => Int64.ofInt (Z i j)) (by omega) v8 h7 (fun i j hi hj => (m2 i j hi hj).trans (z1 i j (by omega) (by omega))) 9 1 (nI 0) v1).trans z2
          rw [hmn, Option.bind_some]
          refine okp_mono (p_m132 (E := at0 (gF κ n k)) (m := (els κ n k).length) (by omega) hE v8 h7 (by rw [e2]; exact h1.1.2.2.2.1) (fun e he => by rw [e2]; exact ⟨(hET e he).1.1, by have := (hET e he).1.2; omega⟩) 500 0 9 x (by omega) (by omega) (by omega)) ?_
          rintro r ⟨w1, w2⟩
          exact ⟨M2, mfr_W (mw g1) (fz_w g2 (by omega) (by omega)), w1, w2⟩
        cases hp : pvl (fun v => eqc (at0 (gF κ n k)) v (els κ n k).length) (vts κ n k).length 9 0 x with
        | none =>
          refine Or.inr (Or.inr (Or.inr (lp_x_r 500 500 hO hC hM ?_ (fun M h => ?_))))
          · show okp (f_X11_circuitCount 500 M) _
            unfold f_X11_circuitCount
            rw [p_ng hC.1.1.1 hκ k3, bx_l, gr.1.1, if_pos v8', p_nC gr, if_pos hcir, bx_l]
            refine okp_bind cls ?_
            rintro ⟨y, M1⟩ ⟨r1, g1⟩
            rw [hp] at r1
            have : y = -1 := r1
            subst this
            refine okp_t (show lg_cmp (-1 : Int64) (-1) = 0 from lj_cmp0 _) ?_
            exact okp_some ⟨rfl, g1⟩
          · show okp (f_X12_circuitCount 500 M) _
            unfold f_X12_circuitCount
            obtain ⟨M0, e00, h0, hz, g0⟩ := mz0 h; rw [e00]
            rw [h0.1.1, if_neg (n3 hκ k3), (h0.1.2.2.2.2.2.2 k3).1, if_pos v8']
            refine okp_mono (ref M0 h0) ?_
            rintro r ⟨M', g, -, w⟩
            rw [w hp]
            exact mm_x (mfr_tr g0 (mfr_w g (fun _ _ => PW_R)))
        | some y =>
          rw [hp] at z4
          refine Or.inl (lp_rl_r 500 500 y hO hC hM ?_ (fun M h => ?_))
          · show okp (f_X11_circuitCount 500 M) _
            unfold f_X11_circuitCount
            rw [p_ng hC.1.1.1 hκ k3, bx_l, gr.1.1, if_pos v8', p_nC gr, if_pos hcir, bx_l]
            refine okp_bind cls ?_
            rintro ⟨y', M1⟩ ⟨r1, g1⟩
            rw [hp] at r1
            have : y' = y := r1
            subst this
            refine okp_f (fun q => z4 (congrArg some (lc_0 q))) ?_
            exact okp_some ⟨rfl, g1⟩
          · show okp (f_X12_circuitCount 500 M) _
            unfold f_X12_circuitCount
            obtain ⟨M0, e00, h0, hz, g0⟩ := mz0 h; rw [e00]
            rw [h0.1.1, if_neg (n3 hκ k3), (h0.1.2.2.2.2.2.2 k3).1, if_pos v8']
            refine okp_mono (ref M0 h0) ?_
            rintro r ⟨M', g, w, -⟩
            rw [w y hp]
            exact ⟨rfl, by rw [g.1 80 0 (by unfold PW; omega)]; exact hz, mfr_tr g0 (mfr_w g (fun _ _ => PW_R))⟩
      · have bt : bI (decide ((cirL κ n k).length = (els κ n k).length)) = nI 0 := by rw [decide_eq_false hcir]; rfl
        refine Or.inr (Or.inr (Or.inl (lp_x_r 500 500 hO hC hM ?_ (fun M h => ?_))))
        · show okp (f_X11_circuitCount 500 M) _
          unfold f_X11_circuitCount
          rw [p_ng hC.1.1.1 hκ k3, bx_l, gr.1.1, if_pos v8', p_nC gr, if_neg hcir, bx_r]
          exact okp_some ⟨rfl, cfr_refl⟩
        · show okp (f_X12_circuitCount 500 M) _
          unfold f_X12_circuitCount
          obtain ⟨M0, e00, h0, hz, g0⟩ := mz0 h; rw [e00]
          rw [h0.1.1, if_neg (n3 hκ k3), (h0.1.2.2.2.2.2.2 k3).1, if_pos v8']
          refine okp_bind (mm_circ hO h0 k3 (by omega)) ?_
          rintro ⟨x1, M1⟩ ⟨q1, q2, g1⟩
          have q1' : x1 = nI 0 := by rw [← bt]; exact q1
          subst q1'
          refine okp_t rfl ?_
          rw [p_fail, Option.bind_some]
          exact okp_some (mm_x (mfr_tr g0 (mfr_w (mw g1) (fun _ _ => PW_R))))
    · have v8' : ¬ nI (vts κ n k).length ≤ (8 : Int32) := nI_ge (a := 8) (b := (vts κ n k).length) (by omega) (by omega)
      refine Or.inr (Or.inl (lp_x_r 500 500 hO hC hM ?_ (fun M h => ?_)))
      · show okp (f_X11_circuitCount 500 M) _
        unfold f_X11_circuitCount
        rw [p_ng hC.1.1.1 hκ k3, bx_l, gr.1.1, if_neg v8']
        exact okp_some ⟨rfl, cfr_refl⟩
      · show okp (f_X12_circuitCount 500 M) _
        unfold f_X12_circuitCount f_X12_circuitCount_22
        obtain ⟨M0, e00, h0, hz, g0⟩ := mz0 h; rw [e00]
        rw [h0.1.1, if_neg (n3 hκ k3), (h0.1.2.2.2.2.2.2 k3).1, if_neg v8', p_fail, Option.bind_some]
        exact okp_some (mm_x g0)
