/-! ===== vertexCount, edgeEnd, inDegree, circuitEdge ===== -/
theorem n3 {κ : Nat} (hκ : κ < 4) (h : κ ≠ 3) : ¬ nI κ = (3 : Int32) := fun q => h ((nI_eq (b := 3) (by omega) (by omega)).mp q)
theorem p_ng3 {F : Nat} {M : sm_M} (h : M.1 1 1 = nI 3) : f_X11_needGraph F M = some (.inr "java/lang/UnsupportedOperationException", M) := by
  unfold f_X11_needGraph
  rw [h, if_pos (by decide)]
theorem p_ng {F κ : Nat} {M : sm_M} (h : M.1 1 1 = nI κ) (hκ : κ < 4) (h3 : κ ≠ 3) : f_X11_needGraph F M = some (.inl none, M) := by
  unfold f_X11_needGraph
  rw [h, if_neg (n3 hκ h3)]
theorem p_nV_in {F j l : Nat} {M : sm_M} (e : M.1 6 2 = nI l) (h : j < l) (hl : l ≤ 200) : f_X11_needVertex F (nI j) M = some (.inl none, M) := by
  unfold f_X11_needVertex
  rw [e, if_neg (nI_pos (by omega)), if_pos (nI_lt h (by omega))]
theorem p_nV_out {F l : Nat} {x : Int32} {M : sm_M} (e : M.1 6 2 = nI l) (h : x < 0 ∨ nI l ≤ x) : f_X11_needVertex F x M = some (.inr "java/lang/IndexOutOfBoundsException", M) := by
  unfold f_X11_needVertex f_X11_needVertex_18
  rw [e]
  rcases h with h | h
  · rw [if_pos h]
  · rw [if_neg (fun q => absurd h (fa_of_lt q).2.1)]
    split <;> rfl
theorem p_isV_in {F j l : Nat} {M : sm_M} (e : M.1 80 7 = nI l) (h : j < l) (hl : l ≤ 200) : f_X12_isVertex F (nI j) M = some (nI 1) := by
  unfold f_X12_isVertex
  rw [e, nl_0, nl_1, p_ix_in h (by omega), Option.bind_some, g_b1]
theorem p_isV_out {F l : Nat} {x : Int32} {M : sm_M} (e : M.1 80 7 = nI l) (h : x < 0 ∨ nI l ≤ x) (hl : l ≤ 200) : f_X12_isVertex F x M = some (nI 0) := by
  unfold f_X12_isVertex
  rw [e, nl_0, nl_1, p_ix_out h (by omega), Option.bind_some, g_b0]
theorem q_32 : lq_32 IV := by
  rintro M ⟨κ, n, k, l, s, hc, hl, hs, b, v, hO, hC, hM⟩
  have hκ := (okF_of hO.1).1
  by_cases k3 : κ = 3
  · subst k3
    refine Or.inr (lp_x_r 0 0 hO hC hM ?_ (fun M h => ?_))
    · show okp (f_X11_vertexCount 0 M) _
      unfold f_X11_vertexCount
      rw [p_ng3 hC.1.1.1, bx_r]
      exact okp_some ⟨rfl, cfr_refl⟩
    · show okp (f_X12_vertexCount 0 M) _
      unfold f_X12_vertexCount f_X12_vertexCount_25
      obtain ⟨M0, e00, h0, hz, g0⟩ := mz0 h; rw [e00]
      rw [h0.1.1, if_pos (by decide), p_fail]
      exact okp_some (mm_x g0)
  · refine Or.inl (lp_r_r 0 0 (nI (vts κ n k).length) hO hC hM ?_ (fun M h => ?_))
    · show okp (f_X11_vertexCount 0 M) _
      unfold f_X11_vertexCount
      rw [p_ng hC.1.1.1 hκ k3, bx_l, (hC.1.2 k3).1.1]
      exact okp_some ⟨rfl, cfr_refl⟩
    · show okp (f_X12_vertexCount 0 M) _
      unfold f_X12_vertexCount f_X12_vertexCount_25
      obtain ⟨M0, e00, h0, hz, g0⟩ := mz0 h; rw [e00]
      rw [h0.1.1, if_neg (n3 hκ k3), (h0.1.2.2.2.2.2.2 k3).1]
      exact okp_some ⟨rfl, hz, g0⟩
theorem q_33a {t : Int32} (ht : t = 0 ∨ t = 1) (M : sm_M) (x1 : Int32) (hI : IV M) : lp_r (fun F M => f_X11_edgeEnd F x1 t M) (fun F M => f_X12_edgeEnd F x1 t M) IV M ∨ lp_x "java/lang/UnsupportedOperationException" 1 (fun F M => f_X11_edgeEnd F x1 t M) (fun F M => f_X12_edgeEnd F x1 t M) IV M ∨ lp_x "java/lang/IndexOutOfBoundsException" 2 (fun F M => f_X11_edgeEnd F x1 t M) (fun F M => f_X12_edgeEnd F x1 t M) IV M := by
  obtain ⟨κ, n, k, l, s, hc, hl, hs, b, v, hO, hC, hM⟩ := hI
  have hκ := (okF_of hO.1).1
  have hE := (els_ok hO.1).2.1
  by_cases k3 : κ = 3
  · subst k3
    refine Or.inr (Or.inl (lp_x_r 0 0 hO hC hM ?_ (fun M h => ?_)))
    · show okp (f_X11_edgeEnd 0 x1 t M) _
      unfold f_X11_edgeEnd
      rw [p_ng3 hC.1.1.1, bx_r]
      exact okp_some ⟨rfl, cfr_refl⟩
    · show okp (f_X12_edgeEnd 0 x1 t M) _
      unfold f_X12_edgeEnd f_X12_edgeEnd_56
      obtain ⟨M0, e00, h0, hz, g0⟩ := mz0 h; rw [e00]
      rw [h0.1.1, if_pos (by decide), p_fail]
      exact okp_some (mm_x g0)
  · have c1 := hC.1.1.2.2.2.1
    have key : ∀ x1, (x1 < 0 ∨ nI (els κ n k).length ≤ x1) → lp_x "java/lang/IndexOutOfBoundsException" 2 (fun F M => f_X11_edgeEnd F x1 t M) (fun F M => f_X12_edgeEnd F x1 t M) IV M := by
      intro x1 hx
      refine lp_x_r 0 0 hO hC hM ?_ (fun M h => ?_)
      · show okp (f_X11_edgeEnd 0 x1 t M) _
        unfold f_X11_edgeEnd
        rw [p_ng hC.1.1.1 hκ k3, bx_l, p_nEl_out c1 hx, bx_r]
        exact okp_some ⟨rfl, cfr_refl⟩
      · show okp (f_X12_edgeEnd 0 x1 t M) _
        unfold f_X12_edgeEnd f_X12_edgeEnd_56
        obtain ⟨M0, e00, h0, hz, g0⟩ := mz0 h; rw [e00]
        rw [h0.1.1, if_neg (n3 hκ k3), p_isEl_out h0.1.2.2.2.1 hx hE, Option.bind_some, if_pos (by decide), p_fail]
        exact okp_some (mm_x g0)
    rcases pk_ix x1 (n := (els κ n k).length) (by omega) with hx | hx | ⟨j, hj, rfl⟩
    · exact Or.inr (Or.inr (key x1 (Or.inl hx)))
    · exact Or.inr (Or.inr (key x1 (Or.inr hx)))
    refine Or.inl (lp_r_r 0 0 (nI (if t = 0 then at0 (gF κ n k) j else at0 (gT κ n k) j)) hO hC hM ?_ (fun M h => ?_))
    · show okp (f_X11_edgeEnd 0 (nI j) t M) _
      unfold f_X11_edgeEnd f_X11_edgeEnd_40
      rw [p_ng hC.1.1.1 hκ k3, bx_l, p_nEl_in c1 hj hE, bx_l, g_ib (by omega) (by omega), g_ib (by omega) (by omega), nI_clamp (by omega)]
      have e1 : M.1 10 j = nI (at0 (gF κ n k) j) := (hC.1.2 k3).2.1.1 j hj
      have e2 : M.1 14 j = nI (at0 (gT κ n k) j) := (hC.1.2 k3).2.2.1.1 j hj
      rw [e1, e2]
      rcases ht with rfl | rfl
      · rw [if_pos rfl, if_pos rfl]
        exact okp_some ⟨rfl, cfr_refl⟩
      · rw [if_neg (by decide), if_neg (by decide)]
        exact okp_some ⟨rfl, cfr_refl⟩
    · show okp (f_X12_edgeEnd 0 (nI j) t M) _
      unfold f_X12_edgeEnd f_X12_edgeEnd_56
      obtain ⟨M0, e00, h0, hz, g0⟩ := mz0 h; rw [e00]
      obtain ⟨e1, e2⟩ := (h0.1.2.2.2.2.2.2 k3).2 j hj
      rw [h0.1.1, if_neg (n3 hκ k3), p_isEl_in h0.1.2.2.2.1 hj hE, Option.bind_some, if_neg (by decide), g_ib (by omega) (by omega), g_ib (by omega) (by omega), nI_clamp (by omega), e1, e2]
      rcases ht with rfl | rfl
      · rw [if_pos rfl, if_pos rfl]
        exact okp_some ⟨rfl, hz, g0⟩
      · rw [if_neg (by decide), if_neg (by decide)]
        exact okp_some ⟨rfl, hz, g0⟩
theorem q_33 : lq_33 IV := fun M x1 hI => ⟨q_33a (Or.inl rfl) M x1 hI, q_33a (Or.inr rfl) M x1 hI⟩
theorem q_34 : lq_34 IV := by
  rintro M x1 ⟨κ, n, k, l, s, hc, hl, hs, b, v, hO, hC, hM⟩
  have hκ := (okF_of hO.1).1
  have hE := (els_ok hO.1).2.1
  by_cases k3 : κ = 3
  · subst k3
    refine Or.inr (Or.inl (lp_x_r 0 0 hO hC hM ?_ (fun M h => ?_)))
    · show okp (f_X11_inDegree 0 x1 M) _
      unfold f_X11_inDegree
      rw [p_ng3 hC.1.1.1, bx_r]
      exact okp_some ⟨rfl, cfr_refl⟩
    · show okp (f_X12_inDegree 0 x1 M) _
      unfold f_X12_inDegree f_X12_inDegree_21 f_X12_inDegree_35
      obtain ⟨M0, e00, h0, hz, g0⟩ := mz0 h; rw [e00]
      rw [h0.1.1, if_pos (by decide), if_pos (by decide), p_fail]
      exact okp_some (mm_x g0)
  · have gr := hC.1.2 k3
    have vl := (vts_ok hO.1 k3).2.1
    have key : ∀ x1, (x1 < 0 ∨ nI (vts κ n k).length ≤ x1) → lp_x "java/lang/IndexOutOfBoundsException" 2 (fun F M => f_X11_inDegree F x1 M) (fun F M => f_X12_inDegree F x1 M) IV M := by
      intro x1 hx
      refine lp_x_r 0 0 hO hC hM ?_ (fun M h => ?_)
      · show okp (f_X11_inDegree 0 x1 M) _
        unfold f_X11_inDegree
        rw [p_ng hC.1.1.1 hκ k3, bx_l, p_nV_out gr.1.1 hx, bx_r]
        exact okp_some ⟨rfl, cfr_refl⟩
      · show okp (f_X12_inDegree 0 x1 M) _
        unfold f_X12_inDegree f_X12_inDegree_21 f_X12_inDegree_35
        obtain ⟨M0, e00, h0, hz, g0⟩ := mz0 h; rw [e00]
        rw [h0.1.1, if_neg (n3 hκ k3), p_isV_out (h0.1.2.2.2.2.2.2 k3).1 hx (by omega), Option.bind_some, if_pos (by decide), if_neg (n3 hκ k3), p_fail]
        exact okp_some (mm_x g0)
    rcases pk_ix x1 (n := (vts κ n k).length) (by omega) with hx | hx | ⟨j, hj, rfl⟩
    · exact Or.inr (Or.inr (key x1 (Or.inl hx)))
    · exact Or.inr (Or.inr (key x1 (Or.inr hx)))
    refine Or.inl (lp_r_r 300 300 (nI (eqc (at0 (gT κ n k)) j (els κ n k).length)) hO hC hM ?_ (fun M h => ?_))
    · show okp (f_X11_inDegree 300 (nI j) M) _
      unfold f_X11_inDegree f_X3_degree
      have e1 : M.1 16 (j + 1) = nI (ltc (at0 (gT κ n k)) (els κ n k).length (j + 1)) := gr.2.2.1.2.1 (j + 1) (by omega)
      have e2 : M.1 16 j = nI (ltc (at0 (gT κ n k)) (els κ n k).length j) := gr.2.2.1.2.1 j (by omega)
      have e3 := ltc_s (E := at0 (gT κ n k)) (m := (els κ n k).length) (v := j)
      rw [p_ng hC.1.1.1 hκ k3, bx_l, p_nV_in gr.1.1 hj (by omega), bx_l, nl_1, nI_add, g_ib (by omega) (by omega), g_ib (by omega) (by omega), nI_clamp (by omega), nI_clamp (by omega)]
      show okp (Option.bind (some (M.1 16 (j + 1) - M.1 16 j)) _) _
      rw [e1, e2, pk_sub (by omega), e3, Option.bind_some, Nat.add_sub_cancel_left]
      exact okp_some ⟨rfl, cfr_refl⟩
    · show okp (f_X12_inDegree 300 (nI j) M) _
      unfold f_X12_inDegree
      obtain ⟨M0, e00, h0, hz, g0⟩ := mz0 h; rw [e00]
      rw [h0.1.1, if_neg (n3 hκ k3), p_isV_in (h0.1.2.2.2.2.2.2 k3).1 hj (by omega), Option.bind_some, if_neg (by decide)]
      have key2 : ∀ (m e : Nat), (els κ n k).length < m + e → e ≤ (els κ n k).length → f_X12_inDegree_43 300 m (nI j) (nI (eqc (at0 (gT κ n k)) j e)) (nI e) M0 = some (nI (eqc (at0 (gT κ n k)) j (els κ n k).length), M0) := by
        intro m
        induction m with
        | zero => intro e a b; omega
        | succ m ih =>
          intro e a1 a2
          show f_X12_inDegree_43b 300 (f_X12_inDegree_43 300 m) _ _ _ _ = _
          unfold f_X12_inDegree_43b f_X12_inDegree_67
          rw [h0.1.2.2.2.1]
          by_cases c : (els κ n k).length ≤ e
          · have e9 : e = (els κ n k).length := by omega
            subst e9
            rw [if_pos (nI_le c (by omega))]
          · obtain ⟨-, e2⟩ := (h0.1.2.2.2.2.2.2 k3).2 e (by omega)
            have gl := (g_lt hO.1 k3 (show e < (els κ n k).length by omega)).2
            have ih1 := ih (e + 1) (by omega) (by omega)
            rw [eqc_s] at ih1
            rw [if_neg (nI_ge (by omega) (by omega)), g_ib (by omega) (by omega), nI_clamp (by omega), e2, i1, nl_0, nl_1, nI_add, nI_add]
            by_cases q : at0 (gT κ n k) e = j
            · rw [if_pos (by rw [q])]
              rw [if_pos q] at ih1
              exact ih1
            · rw [if_neg (fun r => q ((nI_eq (by omega) (by omega)).mp r))]
              rw [if_neg q] at ih1
              exact ih1
      refine ⟨_, key2 300 0 (by omega) (by omega), rfl, hz, g0⟩
/-! the reference's circuit -/
def mci (M : sm_M) (m : Nat) (u : Nat → Bool) (st : List (Nat × Nat)) (out : List Nat) : Prop := (∀ (i v b : Nat), st[i]? = some (v, b) → M.1 97 (st.length - 1 - i) = nI v ∧ M.1 98 (st.length - 1 - i) = bym b) ∧ (∀ e, e < m → M.1 96 e = bI (u e)) ∧ ∀ (i x : Nat), out[i]? = some x → M.1 99 (m - out.length + i) = nI x
theorem p_mc50 {F m v h pl : Nat} {E : Nat → Nat} {u : Nat → Bool} {M : sm_M} {kb : Int32 → Int32 → sm_M → Option (Int32 × sm_M)} (hm : m ≤ 200) (h5 : M.1 80 5 = nI m) (hE : ∀ e, e < m → M.1 84 e = nI (E e) ∧ E e < 200) (hu : ∀ e, e < m → M.1 96 e = bI (u e)) (hh : 1 ≤ h) (hh2 : h ≤ 201) (hv : M.1 97 (h - 1) = nI v) (hv2 : v < 200) : ∀ (z e : Nat), m < z + e → e ≤ m → (∀ x, x < e → (!u x && decide (E x = v)) = false) → f_X12_findCircuit_50 F kb z (nI h) (nI pl) (nI e) M = f_X12_findCircuit_90 F kb (nI h) (nI pl) (nI (nxe E u v m)) M := by
  intro z
  induction z with
  | zero => intro e a b; omega
  | succ z ih =>
    intro e a1 a2 a3
    show f_X12_findCircuit_50b F kb (f_X12_findCircuit_50 F kb z) _ _ _ _ = _
    unfold f_X12_findCircuit_50b f_X12_findCircuit_84
    rw [h5]
    by_cases c : m ≤ e
    · have e9 : e = m := by omega
      subst e9
      have : nxe E u v e = e := fst_all a3
      rw [if_pos (nI_le c (by omega)), this]
    · obtain ⟨x1, x2⟩ := hE e (by omega)
      rw [if_neg (nI_ge (by omega) (by omega)), g_ib (by omega) (by omega), g_ib (by omega) (by omega), nI_clamp (by omega), hu e (by omega), nl_1, pk_sub hh, g_ib (by omega) (by omega), nI_clamp (by omega), x1, hv, nI_add]
      have go : (!u e && decide (E e = v)) = false → f_X12_findCircuit_50 F kb z (nI h) (nI pl) (nI (e + 1)) M = f_X12_findCircuit_90 F kb (nI h) (nI pl) (nI (nxe E u v m)) M := fun q => by
        refine ih (e + 1) (by omega) (by omega) (fun x hx => ?_)
        by_cases r : x = e
        · rw [r]; exact q
        · exact a3 x (by omega)
      by_cases d : u e = false
      · rw [if_pos (bI_0.mpr d)]
        by_cases q : E e = v
        · rw [if_pos (by rw [q])]
          have : nxe E u v m = e := fst_at (by omega) a3 (by simp [d, q])
          rw [this]
        · rw [if_neg (fun r => q ((nI_eq (by omega) (by omega)).mp r))]
          exact go (by simp [q])
      · rw [if_neg (fun r => d (bI_0.mp r))]
        exact go (by simp [Bool.not_eq_false] at d; simp [d])
theorem p_mc44 {F m V : Nat} {E T : Nat → Nat} {M0 : sm_M} (hF : 201 < F) (hm : m ≤ 200) (hV : V ≤ 199) (h5 : M0.1 80 5 = nI m) (hE : ∀ e, e < m → M0.1 84 e = nI (E e) ∧ E e < 200) (hT : ∀ e, e < m → M0.1 85 e = nI (T e) ∧ T e < V) : ∀ (z f : Nat) (u : Nat → Bool) (st : List (Nat × Nat)) (out : List Nat) (M : sm_M), 2 * (m - fb_ct u m) + st.length < z → 2 * (m - fb_ct u m) + st.length ≤ f → fz 96 100 M0 M → cin E m V u st out → mci M m u st out → okp (f_X12_findCircuit_44 F z (nI st.length) (nI (m - out.length)) M) (fun r => r.1 = bI (decide ((cirun E T m f u st out).length = m)) ∧ (∀ i x, (cirun E T m f u st out)[i]? = some x → r.2.1 99 (m - (cirun E T m f u st out).length + i) = nI x) ∧ fz 96 100 M0 r.2) := by
  intro z
  induction z with
  | zero => intro f u st out M a; omega
  | succ z ih =>
    intro f u st out M a1 a2 g hc hb
    show okp (f_X12_findCircuit_44b F (f_X12_findCircuit_44 F z) _ _ _) _
    unfold f_X12_findCircuit_44b f_X12_findCircuit_173
    cases st with
    | nil =>
      rw [if_pos (by decide), cirun_n]
      have ho := hc.2.2.2.1
      by_cases c : out.length = m
      · rw [if_pos (by rw [c, Nat.sub_self]; rfl), nl_1, g_b1]
        refine okp_some ⟨?_, hb.2.2, g⟩
        simp [c, bI]
      · rw [if_neg (nI_ne0 (by omega) (by omega)), nl_0, g_b0]
        refine okp_some ⟨?_, hb.2.2, g⟩
        simp [c, bI]
    | cons vb st =>
      obtain ⟨v, b⟩ := vb
      obtain ⟨s1, s2⟩ := hb.1 0 v b rfl
      have hv := (hc.2.2.2.2.1 0 v b rfl).1
      have ul := fb_ct_le u m
      have hlen : st.length + 1 ≤ 201 := by
        have := hc.2.2.1
        simp only [List.length_cons] at *
        omega
      have e0 : ((v, b) :: st).length - 1 - 0 = st.length := by simp
      rw [e0] at s1 s2
      simp only [List.length_cons] at a1 a2 ⊢
      cases f with
      | zero => omega
      | succ f =>
        rw [if_neg (show ¬ nI (st.length + 1) ≤ 0 from nI_nle (by omega) (by omega)), nl_0]
        have m5 : M.1 80 5 = nI m := by rw [fz_1 g (by omega)]; exact h5
        rw [p_mc50 (E := E) (u := u) (v := v) (h := st.length + 1) hm m5 (fun e he => by rw [fz_1 g (by omega)]; exact hE e he) hb.2.1 (by omega) (by omega) s1 (by omega) F 0 (by omega) (by omega) (fun x hx => by omega), cirun_s]
        unfold f_X12_findCircuit_90 f_X12_findCircuit_143 f_X12_findCircuit_161
        rw [m5]
        by_cases c : nxe E u v m < m
        · rw [if_neg (nI_ge c (by omega)), if_pos c]
          obtain ⟨h1, h2⟩ := nxe_yes c
          obtain ⟨t1, t2⟩ := hT _ c
          obtain ⟨p1, p2⟩ := cin_push (T := T) hc c t2
          have ua := usd_add c h1
          have ult := usd_lt c h1
          have m85 : M.1 85 (nxe E u v m) = nI (T (nxe E u v m)) := by rw [fz_1 g (by omega)]; exact t1
          rw [g_ib (by omega) (by omega), g_ib (by omega) (by omega), g_ib (by omega) (by omega), g_ib (by omega) (by omega), nI_clamp (by omega), nI_clamp (by omega), nl_1, vb_1, mi_na (by omega), m85, nI_add]
          refine ih f (adu u (nxe E u v m)) ((T (nxe E u v m), nxe E u v m + 1) :: (v, b) :: st) out _ (by simp only [List.length_cons]; omega) (by simp only [List.length_cons]; omega) (fz_then (fz_then (fz_then g (by omega) (by omega)) (by omega) (by omega)) (by omega) (by omega)) p1 ⟨fun i x y hi => ?_, fun e he => ?_, fun i x hi => ?_⟩
          · simp only [List.length_cons]
            cases i with
            | zero =>
              simp only [List.getElem?_cons_zero, Option.some.injEq, Prod.mk.injEq] at hi
              have e9 : st.length + 1 + 1 - 1 - 0 = st.length + 1 := by omega
              rw [e9, mi_na (by omega), mi_eq, mi_eq, ← hi.1, ← hi.2]
              exact ⟨rfl, rfl⟩
            | succ i =>
              rw [List.getElem?_cons_succ] at hi
              have hil := (List.getElem?_eq_some_iff.mp hi).1
              simp only [List.length_cons] at hil
              obtain ⟨r1, r2⟩ := hb.1 i x y hi
              simp only [List.length_cons] at r1 r2
              have e9 : st.length + 1 + 1 - 1 - (i + 1) = st.length + 1 - 1 - i := by omega
              rw [e9]
              refine ⟨?_, ?_⟩
              · rw [mi_na (by omega), mi_ni (by omega), mi_na (by omega)]
                exact r1
              · rw [mi_ni (by omega), mi_na (by omega), mi_na (by omega)]
                exact r2
          · rw [mi_na (by omega), mi_na (by omega)]
            unfold adu
            by_cases q : e = nxe E u v m
            · rw [q, mi_eq]
              simp [bI]
            · rw [mi_ni q, hb.2.1 e he]
              simp [q]
          · rw [mi_na (by omega), mi_na (by omega), mi_na (by omega)]
            exact hb.2.2 i x hi
        · have hnx : nxe E u v m = m := by
            have : nxe E u v m ≤ m := fa_first_le _ _
            omega
          rw [if_neg c, hnx, if_pos (nI_le (Nat.le_refl _) (by omega))]
          have e2 : nI (st.length + 1) + (-1) = nI st.length := pk_m1 _
          rw [e2]
          obtain ⟨p1, p2, p3⟩ := cin_pop hc
          have hst : ∀ M' : sm_M, (∀ a, 96 ≤ a → a ≤ 98 → M'.1 a = M.1 a) → (∀ (i v b : Nat), st[i]? = some (v, b) → M'.1 97 (st.length - 1 - i) = nI v ∧ M'.1 98 (st.length - 1 - i) = bym b) ∧ (∀ e, e < m → M'.1 96 e = bI (u e)) := fun M' e => by
            refine ⟨fun i x y hi => ?_, fun w hw => by rw [e 96 (by omega) (by omega)]; exact hb.2.1 w hw⟩
            have hil := (List.getElem?_eq_some_iff.mp hi).1
            obtain ⟨r1, r2⟩ := hb.1 (i + 1) x y (by rw [List.getElem?_cons_succ]; exact hi)
            simp only [List.length_cons] at r1 r2
            have e9 : st.length + 1 - 1 - (i + 1) = st.length - 1 - i := by omega
            rw [e9] at r1 r2
            rw [e 97 (by omega) (by omega), e 98 (by omega) (by omega)]
            exact ⟨r1, r2⟩
          by_cases q : b = 0
          · rw [if_pos q] at p1 ⊢
            have sn : st = [] := p2.mp q
            have sl : st.length = 0 := by rw [sn]; rfl
            have e3 : nI (m - out.length) - 0 = nI (m - out.length) := Int32.sub_zero _
            rw [if_pos (show nI st.length ≤ 0 by rw [sl]; decide), if_pos (show nI st.length ≤ 0 by rw [sl]; decide), e3]
            obtain ⟨x1, x2⟩ := hst M (fun _ _ _ => rfl)
            exact ih f u st out M (by omega) (by omega) g p1 ⟨x1, x2, hb.2.2⟩
          · rw [if_neg q] at p1 ⊢
            obtain ⟨p4, p5⟩ := p3 q
            have sl : 1 ≤ st.length := by
              cases st with
              | nil => exact absurd (p2.mpr rfl) q
              | cons x y => simp
            have eb : bym b = nI (b - 1) := by unfold bym; rw [if_neg q]
            have e9 : nI (m - out.length) - 1 = nI (m - ((b - 1) :: out).length) := by
              have : m - out.length = (m - ((b - 1) :: out).length) + 1 := by
                simp only [List.length_cons]
                omega
              rw [this]
              exact nI_pred _
            have hlo : m - ((b - 1) :: out).length < 200 := by
              simp only [List.length_cons]
              omega
            rw [if_neg (show ¬ nI st.length ≤ 0 from nI_nle (by omega) (by omega)), if_neg (show ¬ nI st.length ≤ 0 from nI_nle (by omega) (by omega)), e9, g_ib (by omega) (by omega), g_ib hlo (by omega), nI_clamp (by omega), nI_clamp (by omega), s2, eb]
            obtain ⟨x1, x2⟩ := hst (sm_mi M 99 (m - ((b - 1) :: out).length) (nI (b - 1))) (fun a h1 h2 => mi_na (by omega))
            refine ih f u st ((b - 1) :: out) _ (by omega) (by omega) (fz_then g (by omega) (by omega)) p1 ⟨x1, x2, fun i x hi => ?_⟩
            cases i with
            | zero =>
              simp only [List.getElem?_cons_zero, Option.some.injEq] at hi
              rw [Nat.add_zero, mi_eq, hi]
            | succ i =>
              rw [List.getElem?_cons_succ] at hi
              rw [mi_ni (by omega)]
              have e11 : m - ((b - 1) :: out).length + (i + 1) = m - out.length + i := by
                simp only [List.length_cons]
                omega
              rw [e11]
              exact hb.2.2 i x hi
