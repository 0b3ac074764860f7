/-! ===== circuitEdge; distances ===== -/
theorem mm_circ {F : Nat} {M : sm_M} {κ n k l : Nat} {s : Nat → Nat} {hc : Nat} {hl : Nat → Nat} {hs : Nat → Nat → Nat} {b : Bf} {v : Sv} (hO : Ok κ n k l s hc hl hs b v) (h0 : MA M κ n k l s hc hl hs b v) (k3 : κ ≠ 3) (hF : 500 ≤ F) : okp (f_X12_findCircuit F M) (fun r => r.1 = bI (decide ((cirL κ n k).length = (els κ n k).length)) ∧ ((cirL κ n k).length = (els κ n k).length → ∀ i x, (cirL κ n k)[i]? = some x → r.2.1 99 i = nI x) ∧ fz 96 100 M r.2) := by
  have hE := (els_ok hO.1).2.1
  have vl := (vts_ok hO.1 k3).2.1
  have v1 := vts_pos hO.1 k3
  have key : ∀ (z i : Nat) (M1 : sm_M), (els κ n k).length < z + i → i ≤ (els κ n k).length → fz 96 97 M M1 → (∀ e, e < i → M1.1 96 e = nI 0) → okp (f_X12_findCircuit_2 F z (nI i) M1) (fun r => r.1 = bI (decide ((cirL κ n k).length = (els κ n k).length)) ∧ ((cirL κ n k).length = (els κ n k).length → ∀ i x, (cirL κ n k)[i]? = some x → r.2.1 99 i = nI x) ∧ fz 96 100 M r.2) := by
    intro z
    induction z with
    | zero => intro i M1 a b; omega
    | succ z ih =>
      intro i M1 a1 a2 g b1
      have m5 : M1.1 80 5 = nI (els κ n k).length := by rw [fz_1 g (by omega)]; exact h0.1.2.2.2.1
      show okp (f_X12_findCircuit_2b F (f_X12_findCircuit_2 F z) _ _) _
      unfold f_X12_findCircuit_2b
      rw [m5, c0]
      by_cases c : (els κ n k).length ≤ i
      · rw [if_pos (nI_le c (by omega))]
        have g1 : fz 96 100 M (sm_mi (sm_mi M1 97 0 (0 : Int32)) 98 0 (-1 : Int32)) := fz_then (fz_then (fz_w g (by omega) (by omega)) (by omega) (by omega)) (by omega) (by omega)
        have uz : fb_ct (fun _ => false) (els κ n k).length = 0 := by
          rw [fb_ct_zero]
          intro k _
          rfl
        refine okp_mono (p_mc44 (V := (vts κ n k).length) (E := at0 (gF κ n k)) (T := at0 (gT κ n k)) (by omega) hE (by omega) h0.1.2.2.2.1 (fun e he => ⟨((h0.1.2.2.2.2.2.2 k3).2 e he).1, by have := (g_lt hO.1 k3 he).1; omega⟩) (fun e he => ⟨((h0.1.2.2.2.2.2.2 k3).2 e he).2, (g_lt hO.1 k3 he).2⟩) F (2 * (els κ n k).length + 1) (fun _ => false) [(0, 0)] [] _ ?_ ?_ g1 ⟨fun _ _ _ _ _ h => (by cases h), fun i v b hi => ?_, ?_, Nat.zero_le _, fun i v b hi => ?_, fun i x hi => (by simp at hi)⟩ ⟨fun i v b hi => ?_, fun e he => ?_, fun i x hi => (by simp at hi)⟩) ?_
        · rw [uz]
          simp only [List.length_singleton]
          omega
        · rw [uz]
          simp only [List.length_singleton]
          omega
        · cases i with
          | zero =>
            simp at hi
            simp
            omega
          | succ i => simp at hi
        · simp
        · cases i with
          | zero =>
            simp at hi
            omega
          | succ i => simp at hi
        · cases i with
          | zero =>
            simp at hi
            rw [← hi.1, ← hi.2]
            refine ⟨?_, ?_⟩
            · show (sm_mi (sm_mi M1 97 0 (0 : Int32)) 98 0 (-1 : Int32)).1 97 0 = _
              rw [mi_na (by omega), mi_eq]
              rfl
            · show (sm_mi (sm_mi M1 97 0 (0 : Int32)) 98 0 (-1 : Int32)).1 98 0 = _
              rw [mi_eq]
              rfl
          | succ i => simp at hi
        · rw [mi_na (by omega), mi_na (by omega), b1 e (by omega)]
          rfl
        · rintro r ⟨r1, r2, r3⟩
          refine ⟨r1, fun hl i x hi => ?_, r3⟩
          have := r2 i x hi
          have e0 : (els κ n k).length - (cirun (at0 (gF κ n k)) (at0 (gT κ n k)) (els κ n k).length (2 * (els κ n k).length + 1) (fun _ => false) [(0, 0)] []).length + i = i := by
            have : (cirun (at0 (gF κ n k)) (at0 (gT κ n k)) (els κ n k).length (2 * (els κ n k).length + 1) (fun _ => false) [(0, 0)] []).length = (els κ n k).length := hl
            omega
          rw [e0] at this
          exact this
      · rw [if_neg (nI_ge (by omega) (by omega)), g_ib (by omega) (by omega), nI_clamp (by omega), nl_0, vb_0, i1]
        refine ih (i + 1) _ (by omega) (by omega) (fz_then g (by omega) (by omega)) (fun e he => ?_)
        by_cases q : e = i
        · subst q
          rw [mi_eq]
        · rw [mi_ni q]
          exact b1 e (by omega)
  exact key F 0 M (by omega) (by omega) fz_refl (fun e he => by omega)
theorem p_nC {F κ n k : Nat} {M : sm_M} (gr : grp M κ n k) : f_X11_needCircuit F M = if (cirL κ n k).length = (els κ n k).length then some (.inl none, M) else some (.inr "java/util/NoSuchElementException", M) := by
  unfold f_X11_needCircuit
  rw [gr.2.2.2.2.1]
  by_cases c : (cirL κ n k).length = (els κ n k).length
  · rw [if_pos c, if_pos c, if_neg (by decide)]
  · rw [if_neg c, if_neg c, if_pos (by decide)]
theorem q_38 : lq_38 IV := by
  rintro M x1 ⟨κ, n, k, l, s, hc, hl, hs, b, v, hO, hC, hM⟩
  have hκ := (okF_of hO.1).1
  have hE := (els_ok hO.1).2.1
  by_cases k3 : κ = 3
  · subst k3
    refine Or.inr (Or.inl (lp_x_r 0 0 hO hC hM ?_ (fun M h => ?_)))
    · show okp (f_X11_circuitEdge 0 x1 M) _
      unfold f_X11_circuitEdge
      rw [p_ng3 hC.1.1.1, bx_r]
      exact okp_some ⟨rfl, cfr_refl⟩
    · show okp (f_X12_circuitEdge 0 x1 M) _
      unfold f_X12_circuitEdge
      obtain ⟨M0, e00, h0, hz, g0⟩ := mz0 h; rw [e00]
      rw [h0.1.1, if_pos (by decide), p_fail]
      exact okp_some (mm_x g0)
  · have gr := hC.1.2 k3
    have mw : ∀ {M0 M1 : sm_M}, fz 96 100 M0 M1 → mfr PW M0 M1 := fun g => mfr_W mfr_refl (fz_w g (by omega) (by omega))
    by_cases hcir : (cirL κ n k).length = (els κ n k).length
    · have bt : bI (decide ((cirL κ n k).length = (els κ n k).length)) = nI 1 := by rw [decide_eq_true hcir]; rfl
      have key : ∀ x1, (x1 < 0 ∨ nI (els κ n k).length ≤ x1) → lp_x "java/lang/IndexOutOfBoundsException" 3 (fun F M => f_X11_circuitEdge F x1 M) (fun F M => f_X12_circuitEdge F x1 M) IV M := by
        intro x1 hx
        refine lp_x_r 500 500 hO hC hM ?_ (fun M h => ?_)
        · show okp (f_X11_circuitEdge 500 x1 M) _
          unfold f_X11_circuitEdge f_X11_circuitEdge_23
          rw [p_ng hC.1.1.1 hκ k3, bx_l, p_nC gr, if_pos hcir, bx_l, gr.2.2.2.1]
          rcases hx with hx | hx
          · rw [if_pos hx]
            exact okp_some ⟨rfl, cfr_refl⟩
          · rw [if_neg (c := x1 < nI (els κ n k).length) (fun q => absurd hx (fa_of_lt q).2.1), ite_self]
            exact okp_some ⟨rfl, cfr_refl⟩
        · show okp (f_X12_circuitEdge 500 x1 M) _
          unfold f_X12_circuitEdge f_X12_circuitEdge_60
          obtain ⟨M0, e00, h0, hz, g0⟩ := mz0 h; rw [e00]
          rw [h0.1.1, if_neg (n3 hκ k3)]
          refine okp_bind (mm_circ hO h0 k3 (by omega)) ?_
          rintro ⟨x, M1⟩ ⟨q1, q2, g1⟩
          have q1' : x = nI 1 := by rw [← bt]; exact q1
          subst q1'
          have h1 := MA_w h0 (mw g1)
          refine okp_f (show ¬ nI 1 = (0 : Int32) by decide) ?_
          show okp ((f_X12_isIn 500 x1 (0 : Int32) ((M1.1 80 5) - (1 : Int32)) M1).bind _) _
          rw [h1.1.2.2.2.1, nl_0, nl_1, p_ix_out hx (by omega), Option.bind_some, if_pos (by decide), p_fail]
          exact okp_some (mm_x (mfr_tr g0 (mfr_w (mw g1) (fun _ _ => PW_R))))
      rcases pk_ix x1 (n := (els κ n k).length) (by omega) with hx | hx | ⟨j, hj, rfl⟩
      · exact Or.inr (Or.inr (Or.inr (key x1 (Or.inl hx))))
      · exact Or.inr (Or.inr (Or.inr (key x1 (Or.inr hx))))
      have hcj : (cirL κ n k)[j]? = some ((cirL κ n k)[j]'(by omega)) := List.getElem?_eq_getElem (by omega)
      generalize (cirL κ n k)[j]'(by omega) = ce at hcj
      refine Or.inl (lp_r_r 500 500 (nI ce) hO hC hM ?_ (fun M h => ?_))
      · show okp (f_X11_circuitEdge 500 (nI j) M) _
        unfold f_X11_circuitEdge
        rw [p_ng hC.1.1.1 hκ k3, bx_l, p_nC gr, if_pos hcir, bx_l, gr.2.2.2.1, if_neg (nI_pos (by omega)), if_pos (nI_lt hj (by omega)), g_ib (by omega) (by omega), nI_clamp (by omega), gr.2.2.2.2.2 hcir j ce hcj]
        exact okp_some ⟨rfl, cfr_refl⟩
      · show okp (f_X12_circuitEdge 500 (nI j) M) _
        unfold f_X12_circuitEdge f_X12_circuitEdge_60
        obtain ⟨M0, e00, h0, hz, g0⟩ := mz0 h; rw [e00]
        rw [h0.1.1, if_neg (n3 hκ k3)]
        refine okp_bind (mm_circ hO h0 k3 (by omega)) ?_
        rintro ⟨x, M1⟩ ⟨q1, q2, g1⟩
        have q1' : x = nI 1 := by rw [← bt]; exact q1
        subst q1'
        have h1 := MA_w h0 (mw g1)
        refine okp_f (show ¬ nI 1 = (0 : Int32) by decide) ?_
        show okp ((f_X12_isIn 500 (nI j) (0 : Int32) ((M1.1 80 5) - (1 : Int32)) M1).bind _) _
        rw [h1.1.2.2.2.1, nl_0, nl_1, p_ix_in hj (by omega), Option.bind_some, if_neg (by decide), g_ib (by omega) (by omega), nI_clamp (by omega)]
        exact okp_some (mm_w (r := (M1.1 99 j, M1)) g0 hz ⟨q2 hcir j ce hcj, mw g1⟩)
    · have bt : bI (decide ((cirL κ n k).length = (els κ n k).length)) = nI 0 := by rw [decide_eq_false hcir]; rfl
      refine Or.inr (Or.inr (Or.inl (lp_x_r 500 500 hO hC hM ?_ (fun M h => ?_))))
      · show okp (f_X11_circuitEdge 500 x1 M) _
        unfold f_X11_circuitEdge
        rw [p_ng hC.1.1.1 hκ k3, bx_l, p_nC gr, if_neg hcir, bx_r]
        exact okp_some ⟨rfl, cfr_refl⟩
      · show okp (f_X12_circuitEdge 500 x1 M) _
        unfold f_X12_circuitEdge
        obtain ⟨M0, e00, h0, hz, g0⟩ := mz0 h; rw [e00]
        rw [h0.1.1, if_neg (n3 hκ k3)]
        refine okp_bind (mm_circ hO h0 k3 (by omega)) ?_
        rintro ⟨x, M1⟩ ⟨q1, q2, g1⟩
        have q1' : x = nI 0 := by rw [← bt]; exact q1
        subst q1'
        refine okp_t (show nI 0 = (0 : Int32) by decide) ?_
        rw [p_fail]
        exact okp_some (mm_x (mfr_tr g0 (mfr_w (mw g1) (fun _ _ => PW_R))))
/-! distances: what they are -/
def dok (E T : Nat → Nat) (m s : Nat) (D : Nat → Option Nat) : Prop := D s = some 0 ∧ (∀ e d, e < m → D (E e) = some d → ∃ d', D (T e) = some d' ∧ d' ≤ d + 1) ∧ (∀ v, D v = some 0 → v = s) ∧ ∀ v d, D v = some (d + 1) → ∃ e, e < m ∧ T e = v ∧ D (E e) = some d
theorem dok_le {E T : Nat → Nat} {m s : Nat} {D D' : Nat → Option Nat} (h : dok E T m s D) (h' : dok E T m s D') : ∀ d v, D v = some d → ∃ d', D' v = some d' ∧ d' ≤ d
  | 0, v, hv => by
    have := h.2.2.1 v hv
    subst this
    exact ⟨0, h'.1, Nat.le_refl _⟩
  | d + 1, v, hv => by
    obtain ⟨e, h1, h2, h3⟩ := h.2.2.2 v d hv
    obtain ⟨d', h4, h5⟩ := dok_le h h' d (E e) h3
    obtain ⟨d'', h6, h7⟩ := h'.2.1 e d' h1 h4
    exact ⟨d'', by rw [← h2]; exact h6, by omega⟩
theorem dok_eq {E T : Nat → Nat} {m s : Nat} {D D' : Nat → Option Nat} (h : dok E T m s D) (h' : dok E T m s D') (v : Nat) : D v = D' v := by
  cases hd : D v with
  | none =>
    cases hd' : D' v with
    | none => rfl
    | some d =>
      obtain ⟨x, h1, -⟩ := dok_le h' h d v hd'
      rw [hd] at h1
      cases h1
  | some d =>
    obtain ⟨d', h1, h2⟩ := dok_le h h' d v hd
    obtain ⟨d'', h3, h4⟩ := dok_le h' h d' v h1
    rw [hd] at h3
    cases h3
    rw [h1]
    congr 1
    omega
/-- reached: in every set that holds the start and is closed -/
def rch (E T : Nat → Nat) (m s v : Nat) : Prop := ∀ S : Nat → Prop, S s → (∀ e, e < m → S (E e) → S (T e)) → S v
theorem rch_rev {E T : Nat → Nat} {m s v : Nat} (h : rch E T m s v) : rch T E m v s := fun S h1 h2 => h (fun x => S x → S s) (fun q => q) (fun e he q r => q (h2 e he r)) h1
theorem dok_rch {E T : Nat → Nat} {m s : Nat} {D : Nat → Option Nat} (h : dok E T m s D) (v : Nat) : D v ≠ none ↔ rch E T m s v := by
  constructor
  · intro hv
    have key : ∀ d v, D v = some d → rch E T m s v := by
      intro d
      induction d with
      | zero =>
        intro v hv S h1 h2
        rw [h.2.2.1 v hv]
        exact h1
      | succ d ih =>
        intro v hv S h1 h2
        obtain ⟨e, h3, h4, h5⟩ := h.2.2.2 v d hv
        rw [← h4]
        exact h2 e h3 (ih (E e) h5 S h1 h2)
    cases hd : D v with
    | none => exact absurd hd hv
    | some d => exact key d v hd
  · intro hr
    refine hr (fun x => D x ≠ none) (by rw [h.1]; simp) (fun e he q => ?_)
    cases hd : D (E e) with
    | none => exact absurd hd q
    | some d =>
      obtain ⟨d', h1, -⟩ := h.2.1 e d he hd
      rw [h1]
      simp
def dd (E T : Nat → Nat) (m s : Nat) : Nat → Nat → Option Nat
  | 0, v => if v = s then some 0 else none
  | r + 1, v => match dd E T m s r v with
    | some d => some d
    | none => if (List.range m).any (fun e => decide (dd E T m s r (E e) = some r) && decide (T e = v)) = true then some (r + 1) else none
theorem dd_keep {E T : Nat → Nat} {m s r v d : Nat} (h : dd E T m s r v = some d) : ∀ x, dd E T m s (r + x) v = some d
  | 0 => h
  | x + 1 => by
    have := dd_keep h x
    rw [← Nat.add_assoc, dd, this]
theorem dd_le {E T : Nat → Nat} {m s : Nat} : ∀ {r v d : Nat}, dd E T m s r v = some d → d ≤ r ∧ dd E T m s d v = some d
  | 0, v, d, h => by
    unfold dd at h
    split at h
    · cases h
      rename_i q
      refine ⟨Nat.le_refl _, ?_⟩
      unfold dd
      rw [if_pos q]
    · cases h
  | r + 1, v, d, h => by
    rw [dd] at h
    cases hd : dd E T m s r v with
    | some d' =>
      rw [hd] at h
      cases h
      have := dd_le hd
      exact ⟨by omega, this.2⟩
    | none =>
      rw [hd] at h
      simp only at h
      split at h
      · cases h
        rename_i q
        refine ⟨Nat.le_refl _, ?_⟩
        rw [dd, hd]
        simp only
        rw [if_pos q]
      · cases h
theorem dd_pre {E T : Nat → Nat} {m s r v d : Nat} (h : dd E T m s r v = some (d + 1)) : ∃ e, e < m ∧ T e = v ∧ dd E T m s r (E e) = some d := by
  obtain ⟨h1, h2⟩ := dd_le h
  rw [dd] at h2
  cases hd : dd E T m s d v with
  | some d' =>
    rw [hd] at h2
    cases h2
    have := (dd_le hd).1
    omega
  | none =>
    rw [hd] at h2
    simp only at h2
    split at h2
    · rename_i q
      simp only [List.any_eq_true, List.mem_range, Bool.and_eq_true, decide_eq_true_eq] at q
      obtain ⟨e, h3, h4, h5⟩ := q
      refine ⟨e, h3, h5, ?_⟩
      have := dd_keep h4 (r - d)
      rwa [Nat.add_sub_cancel' (by omega)] at this
    · cases h2
theorem dd_0 {E T : Nat → Nat} {m s r v : Nat} (h : dd E T m s r v = some 0) : v = s := by
  have := (dd_le h).2
  unfold dd at this
  split at this
  · assumption
  · cases this
theorem dd_dok {E T : Nat → Nat} {m s V : Nat} (hE : ∀ e, e < m → E e < V ∧ T e < V) (hs : s < V) : dok E T m s (dd E T m s V) := by
  have hb : ∀ d v, v < V → dd E T m s V v = some d → d < V := by
    intro d v hv hd
    have chain : ∀ d v, v < V → dd E T m s V v = some d → ∀ i, i ≤ d → ∃ x, x < V ∧ dd E T m s V x = some i := by
      intro d
      induction d with
      | zero =>
        intro v hv hd i hi
        have : i = 0 := by omega
        subst this
        exact ⟨v, hv, hd⟩
      | succ d ih =>
        intro v hv hd i hi
        by_cases q : i = d + 1
        · subst q
          exact ⟨v, hv, hd⟩
        · obtain ⟨e, h1, h2, h3⟩ := dd_pre hd
          exact ih (E e) (hE e h1).1 h3 i (by omega)
    have ch := chain d v hv hd
    have hf : ∃ f : Nat → Nat, ∀ i, i ≤ d → f i < V ∧ dd E T m s V (f i) = some i := by
      refine ⟨fun i => if h : i ≤ d then Classical.choose (ch i h) else 0, fun i hi => ?_⟩
      simp only [hi, dite_true]
      exact Classical.choose_spec (ch i hi)
    obtain ⟨f, hf⟩ := hf
    have := fb_holes V (d + 1) f (fun i hi => (hf i (by omega)).1) (fun i j hij hj q => by
      have a := (hf i (by omega)).2
      have b := (hf j (by omega)).2
      rw [q, b] at a
      cases a
      omega)
    omega
  refine ⟨?_, fun e d he hd => ?_, fun v hv => dd_0 hv, fun v d hv => dd_pre hv⟩
  · have h0 : dd E T m s 0 s = some 0 := by
      unfold dd
      rw [if_pos rfl]
    have := dd_keep h0 V
    rwa [Nat.zero_add] at this
  · have hdV := hb d (E e) (hE e he).1 hd
    have h2 := (dd_le hd).2
    have key : ∃ d', dd E T m s (d + 1) (T e) = some d' ∧ d' ≤ d + 1 := by
      rw [dd]
      cases hx : dd E T m s d (T e) with
      | some d' => exact ⟨d', rfl, by have := (dd_le hx).1; omega⟩
      | none =>
        simp only
        rw [if_pos]
        · exact ⟨d + 1, rfl, Nat.le_refl _⟩
        · simp only [List.any_eq_true, List.mem_range, Bool.and_eq_true, decide_eq_true_eq]
          exact ⟨e, he, h2, rfl⟩
    obtain ⟨d', h3, h4⟩ := key
    refine ⟨d', ?_, h4⟩
    have := dd_keep h3 (V - (d + 1))
    rwa [Nat.add_sub_cancel' (by omega)] at this
