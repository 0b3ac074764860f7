/-! ===== useCircuit: both sides' ends, kinds 0 and 2 ===== -/
theorem cir_lt {E T : Nat → Nat} {m V : Nat} (hT : ∀ e, e < m → T e < V) : ∀ (f : Nat) (u : Nat → Bool) (st : List (Nat × Nat)) (out : List Nat), cin E m V u st out → ∀ (i x : Nat), (cirun E T m f u st out)[i]? = some x → x < m := by
  intro f
  induction f with
  | zero =>
    intro u st out h i x hx
    exact h.2.2.2.2.2 i x hx
  | succ f ih =>
    intro u st out h i x hx
    cases st with
    | nil =>
      rw [cirun_n] at hx
      exact h.2.2.2.2.2 i x hx
    | cons vb st =>
      obtain ⟨v, b⟩ := vb
      rw [cirun_s] at hx
      by_cases c : nxe E u v m < m
      · rw [if_pos c] at hx
        exact ih _ _ _ (cin_push (T := T) h c (hT _ c)).1 i x hx
      · rw [if_neg c] at hx
        exact ih _ _ _ (cin_pop h).1 i x hx
theorem cin_0 {E : Nat → Nat} {m V : Nat} (hV1 : 1 ≤ V) : cin E m V (fun _ => false) [(0, 0)] [] := by
  refine ⟨fun _ _ _ _ _ h => (by cases h), fun i v b hi => ?_, ?_, Nat.zero_le _, fun i v b hi => ?_, fun i x hi => (by simp at hi)⟩
  · cases i with
    | zero =>
      simp at hi
      simp
      omega
    | succ i => simp at hi
  · simp
  · cases i with
    | zero =>
      simp at hi
      omega
    | succ i => simp at hi
theorem fam_dg : famAll (fun κ n k => (els κ n k).all fun c => (List.range n).all fun i => decide (dg c i < kk κ n k)) = true := by decide +kernel
theorem at0_get {L : List Nat} {p : Nat} (h : p < L.length) : L[p]? = some (at0 L p) := by
  unfold at0
  rw [List.getD_eq_getElem?_getD, List.getElem?_eq_getElem h]
  rfl
def cel (κ n k p : Nat) : Nat := at0 (els κ n k) (at0 (cirL κ n k) p)
theorem cel_ok {κ n k p : Nat} (ho : okF κ n k = true) (k3 : κ ≠ 3) (hcir : (cirL κ n k).length = (els κ n k).length) (hp : p < (els κ n k).length) : (cirL κ n k)[p]? = some (at0 (cirL κ n k) p) ∧ at0 (cirL κ n k) p < (els κ n k).length ∧ (els κ n k)[at0 (cirL κ n k) p]? = some (cel κ n k p) ∧ cel κ n k p < 8 ^ n ∧ ∀ i, i < n → dg (cel κ n k p) i < kk κ n k := by
  have h1 : (cirL κ n k)[p]? = some (at0 (cirL κ n k) p) := at0_get (by omega)
  have h2 : at0 (cirL κ n k) p < (els κ n k).length := cir_lt (fun e he => (g_lt ho k3 he).2) _ _ _ _ (cin_0 (vts_pos ho k3)) p _ h1
  have h3 : (els κ n k)[at0 (cirL κ n k) p]? = some (cel κ n k p) := at0_get h2
  have hm := List.mem_of_getElem? h3
  refine ⟨h1, h2, h3, (els_ok ho).2.2 _ hm, fun i hi => ?_⟩
  have := fam_of fam_dg ho
  rw [List.all_eq_true] at this
  have h4 := this _ hm
  rw [List.all_eq_true] at h4
  exact of_decide_eq_true (h4 i (List.mem_range.mpr hi))
theorem cc_useEnd {M : sm_M} {k l : Nat} {s : Nat → Nat} {hc : Nat} {hl : Nat → Nat} {hs : Nat → Nat → Nat} {E : Nat} {w : Nat → Nat} {M7 : sm_M} (hO : okQ k l s hc hl hs) (hC : CQ M l s hc hl hs) (g : fz 65 67 M M7) (hr : rowp M7 65 E w) (hE : E ≤ 200) (h8 : ∀ i, i < E → w i < 8) : okp ((f_X6_remember 1000 24 M7).bind fun q9 => (f_X7_copyFrom 1000 24 65 q9.2).bind fun q10 => (f_X7_symbolMask 1000 24 q10).bind fun q11 => (f_J6_bitCount_0f7a4 1000 q11 q10).bind fun q12 => some ((.inl (some (.int q12)) : sm_O), q10)) (fun r => r.1 = .inl (some (.int (nI (popn (mskn w E) 8)))) ∧ CQ r.2 E w (hup hc) (hcons l hl) (hcons s hs) ∧ cfq M r.2) := by
  have hC7 : CQ M7 l s hc hl hs := CQ_c hC (fun x _ _ => fz_1 g (by omega))
  refine okp_bind (cc_rem hO hC7) ?_
  rintro ⟨a, M1⟩ ⟨q1, -, -, -, g1⟩
  simp only at q1 g1
  refine okp_bind (p_copy (a0 := 24) (a1 := 65) (by omega) (rowp_f hr g1 (by omega)) (by omega)) ?_
  rintro M2 ⟨r2, g2⟩
  rw [p_mask r2 (by omega) h8 (by omega), Option.bind_some, p_bc (mskn_lt h8), Option.bind_some]
  exact okp_some ⟨rfl, ⟨r2, CH_f q1.2 g2 (by omega)⟩, cfq_tr (cfq_tr (cfq_z g (by omega)) (cfq_z g1 (by omega))) (cfq_z g2 (by omega))⟩
theorem mm_useEnd {M : sm_M} {κ n k l : Nat} {s : Nat → Nat} {hc : Nat} {hl : Nat → Nat} {hs : Nat → Nat → Nat} {b : Bf} {v : Sv} {w : Nat → Nat} {M0 : sm_M} (hO : Ok κ n k l s hc hl hs b v) (h0 : MA M0 κ n k l s hc hl hs b v) (k3 : κ ≠ 3) (hk : ∀ i, i < (els κ n k).length → w i < k) (hv : κ ≠ 1 → ∀ i, i < (els κ n k).length → w i = dg (cel κ n k i) (n - 1)) (hcir : (cirL κ n k).length = (els κ n k).length) (h99 : ∀ i x, (cirL κ n k)[i]? = some x → M0.1 99 i = nI x) : ∀ (z p : Nat) (M : sm_M), (els κ n k).length < z + p → p ≤ (els κ n k).length → fz 89 90 M0 M → (∀ j, (κ = 1 ∨ j < p) → j < (els κ n k).length → M.1 89 j = nI (w j)) → okp (f_X12_useCircuit_55 1000 z (nI p) M) (fun r => r.1 = nI (popn (mskn w (els κ n k).length) 8) ∧ MsQ r.2 (els κ n k).length w (hup hc) (hcons l hl) (hcons s hs) ∧ mfr PZ M0 r.2) := by
  obtain ⟨o1, o2, o3, o4, o5, -, -⟩ := okF_of hO.1
  have hE := (els_ok hO.1).2.1
  intro z
  induction z with
  | zero => intro p M a b; omega
  | succ z ih =>
    intro p M a1 a2 g b1
    have gp : mfr PW M0 M := mfr_fz mfr_refl g (fun a j _ _ => by unfold PW; omega) (by omega)
    have h1 := MA_w h0 gp
    show okp (f_X12_useCircuit_55b 1000 (f_X12_useCircuit_55 1000 z) _ _) _
    unfold f_X12_useCircuit_55b f_X12_useCircuit_98
    rw [h1.1.2.2.2.1, h1.1.1]
    by_cases c : (els κ n k).length ≤ p
    · rw [if_pos (nI_le c (by omega))]
      refine okp_bind (p_replace (by omega) h1.2.1 hO.2.1.1 hO.2.1.2.2.1 (fun j hj => (hO.2.1.2.2.2 j hj).1) (by omega) (fun i hi => b1 i (Or.inr (by omega)) hi)) ?_
      rintro M2 ⟨r1, g2⟩
      rw [nl_8, p_lt r1.1 r1.2.1 (by omega) (fun i hi => by have := hk i hi; omega) (by omega) (by omega), Option.bind_some]
      refine okp_some ⟨rfl, r1, mfr_tr (mfr_w gp (fun a j q => by unfold PW at q; unfold PZ; omega)) (mfr_w g2 (fun a j q => by unfold PS at q; unfold PZ; omega))⟩
    · obtain ⟨c1, c2, c3, c4, c5⟩ := cel_ok hO.1 k3 hcir (show p < (els κ n k).length by omega)
      have hp99 : M.1 99 p = nI (at0 (cirL κ n k) p) := by rw [fz_1 g (by omega)]; exact h99 p _ c1
      have step : ∀ y : Int32, y = nI (w p) → okp (sm_g (sm_ib (nI p) 240) (sm_g (sm_ib (nI p) 240) (if ((sm_mi M 89 (nI p).toNatClampNeg y).1 89 (nI p).toNatClampNeg) < (((sm_mi M 89 (nI p).toNatClampNeg y)).1 80 3) then (f_X12_useCircuit_55 1000 z (nI p + 1) ((sm_mi M 89 (nI p).toNatClampNeg y))) else ((f_X12_fail 1000 (2 : Int32) (sm_mi M 89 (nI p).toNatClampNeg y)).bind fun q4 => some (q4.1, q4.2))))) (fun r => r.1 = nI (popn (mskn w (els κ n k).length) 8) ∧ MsQ r.2 (els κ n k).length w (hup hc) (hcons l hl) (hcons s hs) ∧ mfr PZ M0 r.2) := by
        intro y hy
        subst hy
        rw [g_ib (by omega) (by omega), g_ib (by omega) (by omega), nI_clamp (by omega), mi_eq, mi_na (by omega), h1.1.2.2.1, if_pos (nI_lt (hk p (by omega)) (by omega)), i1]
        refine ih (p + 1) _ (by omega) (by omega) (fz_then g (by omega) (by omega)) (fun j hj hj2 => ?_)
        by_cases q : j = p
        · subst q
          rw [mi_eq]
        · rw [mi_ni q]
          exact b1 j (by omega) hj2
      rw [if_neg (nI_ge (by omega) (by omega))]
      by_cases k1 : κ = 1
      · rw [if_pos (by rw [k1]; rfl), g_ib (by omega) (by omega)]
        exact step _ (by rw [nI_clamp (by omega)]; exact b1 p (Or.inl k1) (by omega))
      · rw [if_neg (show ¬ nI κ = (1 : Int32) from fun q => k1 ((nI_eq (b := 1) (by omega) (by omega)).mp q)), g_ib (by omega) (by omega), nI_clamp (by omega), hp99, nl_5, pk_mul, g_ib (by omega) (by omega)]
        have e81 : M.1 81 (5 * at0 (cirL κ n k) p) = nI (w p) := by
          have := h1.1.2.2.2.2.1 _ _ c3 0 (by omega)
          rw [Nat.add_zero] at this
          rw [this, hv k1 p (by omega)]
          rfl
        have := step (M.1 81 (nI (5 * at0 (cirL κ n k) p)).toNatClampNeg) (by rw [nI_clamp (by omega)]; exact e81)
        simp only [nI_clamp (show p < 2 ^ 31 by omega), nI_clamp (show 5 * at0 (cirL κ n k) p < 2 ^ 31 by omega)] at this ⊢
        exact this
/-- the class's row where each place is an element's first number -/
theorem cc_unf {κ n k : Nat} {M0 : sm_M} (ho : okF κ n k = true) (k3 : κ ≠ 3) (hC : CF M0 κ n k) (hcir : (cirL κ n k).length = (els κ n k).length) (h65 : M0.1 65 1 = nI (els κ n k).length) : ∀ (z p : Nat) (M : sm_M), (els κ n k).length < z + p → p ≤ (els κ n k).length → fz 66 67 M0 M → (∀ j, j < p → M.1 66 j = nI (dg (cel κ n k j) (n - 1))) → okp (f_X9_unfold_28 1000 z (nI p) M) (fun r => r.1 = nI 1 ∧ (∀ j, j < (els κ n k).length → r.2.1 66 j = nI (dg (cel κ n k j) (n - 1))) ∧ fz 66 67 M0 r.2) := by
  obtain ⟨o1, o2, o3, o4, o5, -, -⟩ := okF_of ho
  have hE := (els_ok ho).2.1
  have gr := hC.2 k3
  intro z
  induction z with
  | zero => intro p M a b; omega
  | succ z ih =>
    intro p M a1 a2 g b1
    show okp (f_X9_unfold_28b 1000 (f_X9_unfold_28 1000 z) _ _) _
    unfold f_X9_unfold_28b
    rw [fz_1 g (show 65 < 66 ∨ 67 ≤ 65 by omega), h65]
    by_cases c : (els κ n k).length ≤ p
    · rw [if_pos (nI_le c (by omega))]
      exact okp_some ⟨rfl, fun j hj => b1 j (by omega), g⟩
    · obtain ⟨c1, c2, c3, c4, c5⟩ := cel_ok ho k3 hcir (show p < (els κ n k).length by omega)
      have h8 : (8 : Nat) ^ n ≤ 8 ^ 5 := Nat.pow_le_pow_right (by omega) o3
      have e17 : M.1 17 p = nI (at0 (cirL κ n k) p) := by rw [fz_1 g (by omega)]; exact gr.2.2.2.2.2 hcir p _ c1
      have e3 : M.1 3 (at0 (cirL κ n k) p) = nI (cel κ n k p) := by rw [fz_1 g (by omega)]; exact hC.1.2.2.2.2 _ _ c3
      have e2 : M.1 1 2 = nI n := by rw [fz_1 g (by omega)]; exact hC.1.2.1
      rw [if_neg (nI_ge (by omega) (by omega)), g_ib (by omega) (by omega), nI_clamp (by omega), e17, g_ib (by omega) (by omega), nI_clamp (by omega), e3, e2, nl_0, p_numAt (by omega) (by omega) (by omega), Option.bind_some, g_ib (by omega) (by omega), i1]
      refine ih (p + 1) _ (by omega) (by omega) (fz_then g (by omega) (by omega)) (fun j hj => ?_)
      by_cases q : j = p
      · subst q
        rw [mi_eq]
        rfl
      · rw [mi_ni q]
        exact b1 j (by omega)
