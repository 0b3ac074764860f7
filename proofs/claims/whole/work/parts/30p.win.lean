/-! ===== what the windows show: the class looks at all, the reference at each ===== -/
def oX (x l : Nat) : Int32 := if x < l then nI x else mN
theorem oI_eq {a b : Option Nat} (ha : ∀ e, a = some e → e < 2 ^ 31) (hb : ∀ e, b = some e → e < 2 ^ 31) : oI a = oI b ↔ a = b := by
  cases a with
  | none =>
    cases b with
    | none => simp
    | some y =>
      have := hb y rfl
      show mN = nI y ↔ _
      rw [mN_eq2 this]
      simp
  | some x =>
    have hx := ha x rfl
    cases b with
    | none =>
      show nI x = mN ↔ _
      rw [mN_eq hx]
      simp
    | some y =>
      show nI x = nI y ↔ _
      rw [nI_eq hx (hb y rfl)]
      simp
theorem shp_lt {κ n k l p e : Nat} {s : Nat → Nat} (ho : okF κ n k = true) (h : shp κ n k s l p = some e) : e < (els κ n k).length ∧ e < 200 := by
  have := shw_lt h
  have := (els_ok ho).2.1
  omega
theorem sh31 {κ n k l p : Nat} {s : Nat → Nat} (ho : okF κ n k = true) : ∀ e, shp κ n k s l p = some e → e < 2 ^ 31 := fun e h => by have := shp_lt ho h; omega
theorem mfr_W {M M1 M2 : sm_M} (h : mfr PW M M1) (g : fz 92 101 M1 M2) : mfr PW M M2 := mfr_fz h g (fun a j _ _ => by unfold PW; omega) (by omega)
theorem mm_shows {M : sm_M} {κ n k l : Nat} {s : Nat → Nat} {hc : Nat} {hl : Nat → Nat} {hs : Nat → Nat → Nat} {b : Bf} {v : Sv} {p : Nat} (hO : Ok κ n k l s hc hl hs b v) (h : MA M κ n k l s hc hl hs b v) (h0 : 0 < l) (hp : p < 1000) : okp (f_X12_shows 300 (nI p) M) (fun r => r.1 = oI (shp κ n k s l p) ∧ fz 92 93 M r.2) := p_mshows hO.1 h.1 h.2.1.1 h.2.1.2.1 h0 hO.2.1.1 hO.2.1.2.1 hp (by omega)
/-! the class's look -/
def times (sh : Nat → Option Nat) (p e : Nat) : Nat := fb_ct (fun q => decide (sh q = some e)) p
def fst1 (sh : Nat → Option Nat) (p e : Nat) : Nat := fa_first (fun q => decide (sh q = some e)) p
theorem fst_s {f : Nat → Bool} {p : Nat} : fa_first f (p + 1) = if fa_first f p < p then fa_first f p else if f p = true then p else p + 1 := rfl
theorem times_0 {sh : Nat → Option Nat} {p e : Nat} : times sh p e = 0 ↔ ∀ q, q < p → sh q ≠ some e := by
  unfold times
  rw [fb_ct_zero]
  simp
theorem fst1_lt {sh : Nat → Option Nat} {p e : Nat} : fst1 sh p e < p ↔ times sh p e ≠ 0 := by
  constructor
  · intro h h2
    have := fa_first_yes _ _ h
    have h3 := times_0.mp h2 _ h
    simp at this
    exact h3 this
  · intro h
    rcases Nat.lt_or_ge (fst1 sh p e) p with q | q
    · exact q
    · exfalso
      apply h
      rw [times_0]
      intro x hx e9
      have := fa_first_no (fun q => decide (sh q = some e)) p x (Nat.lt_of_lt_of_le hx q)
      simp at this
      exact this e9
def lkp (M : sm_M) (sh : Nat → Option Nat) (l E : Nat) : Prop := M.1 52 4 = nI l ∧ M.1 52 5 = nI E ∧ (∀ p, p < l → M.1 53 p = oI (sh p)) ∧ (∀ e, e < 200 → M.1 54 e = nI (times sh l e)) ∧ ∀ e, e < 200 → times sh l e ≠ 0 → M.1 55 e = nI (fst1 sh l e)
theorem p_look_l {κ n k l : Nat} {s : Nat → Nat} {M0 : sm_M} (ho : okF κ n k = true) (hf : famp M0 κ n k) (hr : rowp M0 24 l s) (hl : l ≤ 240) (hs : ∀ i, i < l → s i < 8) (h4 : M0.1 52 4 = nI l) (h5 : M0.1 52 5 = nI (els κ n k).length) : ∀ (m p : Nat) (M : sm_M), l < m + p → p ≤ l → fz 53 56 M0 M → (∀ q, q < p → M.1 53 q = oI (shp κ n k s l q)) → (∀ e, e < 200 → M.1 54 e = nI (times (shp κ n k s l) p e)) → (∀ e, e < 200 → times (shp κ n k s l) p e ≠ 0 → M.1 55 e = nI (fst1 (shp κ n k s l) p e)) → okp (f_X10_lookAt_29 300 24 m (nI p) M) (fun M' => lkp M' (shp κ n k s l) l (els κ n k).length ∧ fz 53 56 M0 M') := by
  intro m
  induction m with
  | zero => intro p M a b; omega
  | succ m ih =>
    intro p M a1 a2 g b1 b2 b3
    show okp (f_X10_lookAt_29b 300 24 (f_X10_lookAt_29 300 24 m) _ _) _
    unfold f_X10_lookAt_29b f_X10_lookAt_77 f_X10_lookAt_88
    rw [fz_1 g (a := 52) (by omega), h4]
    by_cases h : l ≤ p
    · have e : p = l := by omega
      subst e
      rw [if_pos (nI_le h (by omega))]
      exact okp_some ⟨⟨by rw [fz_1 g (by omega)]; exact h4, by rw [fz_1 g (by omega)]; exact h5, b1, b2, b3⟩, g⟩
    · rw [if_neg (nI_ge (by omega) (by omega)), p_shown ho (famp_f hf g (by omega)) (rowp_f hr g (by omega)) (by omega) hl hs (by omega) (by omega), Option.bind_some, g_ib (by omega) (by omega), nI_clamp (by omega), nl_m1]
      have tm : ∀ e, times (shp κ n k s l) (p + 1) e = times (shp κ n k s l) p e + (if shp κ n k s l p = some e then 1 else 0) := fun e => by
        unfold times
        rw [fb_ct_succ]
        simp
      have ft : ∀ e, times (shp κ n k s l) p e ≠ 0 → fst1 (shp κ n k s l) (p + 1) e = fst1 (shp κ n k s l) p e := fun e he => by
        unfold fst1
        rw [fst_s, if_pos]
        exact fst1_lt.mpr he
      cases hsh : shp κ n k s l p with
      | none =>
        rw [if_pos (show oI none = mN from rfl), i1]
        refine ih (p + 1) _ (by omega) (by omega) (fz_then g (by omega) (by omega)) (fun q hq => ?_) (fun e he => ?_) (fun e he h0 => ?_)
        · by_cases e : q = p
          · subst e
            rw [mi_eq, hsh]
          · rw [mi_ni e]
            exact b1 q (by omega)
        · rw [mi_na (by omega), tm, hsh, if_neg (by simp), Nat.add_zero]
          exact b2 e he
        · rw [tm, hsh, if_neg (by simp), Nat.add_zero] at h0
          rw [mi_na (by omega), ft e h0]
          exact b3 e he h0
      | some x =>
        have hx := (shp_lt ho hsh).2
        rw [if_neg (show ¬ oI (some x) = mN from fun q => (mN_eq (by omega)).mp q)]
        simp only [show oI (some x) = nI x from rfl, g_ib hx (show 200 < 2 ^ 31 by omega), nI_clamp (show x < 2 ^ 31 by omega), i1]
        have e54 : ∀ y, (sm_mi M 53 p (nI x)).1 54 y = M.1 54 y := fun y => by rw [mi_na (by omega)]
        rw [e54, b2 x hx]
        have tx := tm x
        rw [hsh, if_pos rfl] at tx
        by_cases h0 : times (shp κ n k s l) p x = 0
        · rw [if_pos (by rw [h0]; rfl), mi_na (by omega), e54, b2 x hx, i1]
          refine ih (p + 1) _ (by omega) (by omega) (fz_then (fz_then (fz_then g (by omega) (by omega)) (by omega) (by omega)) (by omega) (by omega)) (fun q hq => ?_) (fun e he => ?_) (fun e he h9 => ?_)
          · rw [mi_na (by omega), mi_na (by omega)]
            by_cases e : q = p
            · subst e
              rw [mi_eq, hsh]
              rfl
            · rw [mi_ni e]
              exact b1 q (by omega)
          · by_cases e2 : e = x
            · subst e2
              rw [mi_eq, tx]
            · rw [mi_ni e2, mi_na (by omega), mi_na (by omega), tm, hsh, if_neg (by simp; exact fun q => e2 q.symm), Nat.add_zero]
              exact b2 e he
          · rw [mi_na (by omega)]
            by_cases e2 : e = x
            · subst e2
              rw [mi_eq]
              have : fst1 (shp κ n k s l) (p + 1) e = p := by
                unfold fst1
                refine fst_at (by omega) (fun j hj => ?_) (by simp [hsh])
                simp
                exact times_0.mp h0 j hj
              rw [this]
            · rw [tm, hsh, if_neg (by simp; exact fun q => e2 q.symm), Nat.add_zero] at h9
              rw [mi_ni e2, mi_na (by omega), ft e h9]
              exact b3 e he h9
        · rw [if_neg (nI_ne0 (by omega) (by have := fb_ct_le (fun q => decide (shp κ n k s l q = some x)) p; unfold times; omega)), i1]
          refine ih (p + 1) _ (by omega) (by omega) (fz_then (fz_then g (by omega) (by omega)) (by omega) (by omega)) (fun q hq => ?_) (fun e he => ?_) (fun e he h9 => ?_)
          · rw [mi_na (by omega)]
            by_cases e : q = p
            · subst e
              rw [mi_eq, hsh]
              rfl
            · rw [mi_ni e]
              exact b1 q (by omega)
          · by_cases e2 : e = x
            · subst e2
              rw [mi_eq, tx]
            · rw [mi_ni e2, mi_na (by omega), tm, hsh, if_neg (by simp; exact fun q => e2 q.symm), Nat.add_zero]
              exact b2 e he
          · rw [mi_na (by omega), mi_na (by omega)]
            by_cases e2 : e = x
            · subst e2
              rw [ft e h0]
              exact b3 e he h0
            · rw [tm, hsh, if_neg (by simp; exact fun q => e2 q.symm), Nat.add_zero] at h9
              rw [ft e h9]
              exact b3 e he h9
theorem cc_look {M : sm_M} {κ n k l : Nat} {s : Nat → Nat} {hc : Nat} {hl : Nat → Nat} {hs : Nat → Nat → Nat} {b : Bf} {v : Sv} (hO : Ok κ n k l s hc hl hs b v) (hC : CA M κ n k l s hc hl hs b v) : okp (f_X10_lookAt 300 24 M) (fun M' => lkp M' (shp κ n k s l) l (els κ n k).length ∧ fz 52 56 M M') := by
  have h8 := sk8 hO.2.1 (ok_k hO.1)
  have hl2 := hO.2.1.1
  unfold f_X10_lookAt
  have e2 : (sm_mi M 52 4 (nI l)).1 2 2 = nI (els κ n k).length := by rw [mi_na (by omega)]; exact hC.1.1.2.2.2.1
  rw [hC.2.1.1.1, e2]
  have g0 : fz 52 53 M (sm_mi (sm_mi M 52 4 (nI l)) 52 5 (nI (els κ n k).length)) := fz_then (fz_mi (by omega) (by omega)) (by omega) (by omega)
  refine okp_bind (p_fill (by omega) (by omega)) ?_
  rintro M1 ⟨q1, g1⟩
  have gg : fz 52 56 M M1 := fz_tr g0 g1 (by omega) (by omega) (by omega) (by omega)
  refine okp_mono (p_look_l hO.1 (famp_f hC.1.1 gg (by omega)) (rowp_f hC.2.1.1 gg (by omega)) hl2 h8 (by rw [fz_1 g1 (by omega), mi_ni (by omega), mi_eq]) (by rw [fz_1 g1 (by omega), mi_eq]) 300 0 M1 (by omega) (by omega) fz_refl (fun q hq => by omega) (fun e he => q1 e he) (fun e he h => absurd rfl h)) ?_
  rintro M' ⟨r1, r2⟩
  exact ⟨r1, fz_tr gg r2 (by omega) (by omega) (by omega) (by omega)⟩
/-! the reference's searches -/
theorem p_mfw {M0 : sm_M} {κ n k l : Nat} {s : Nat → Nat} {hc : Nat} {hl : Nat → Nat} {hs : Nat → Nat → Nat} {b : Bf} {v : Sv} {t : Option Nat} (hO : Ok κ n k l s hc hl hs b v) (h0 : MA M0 κ n k l s hc hl hs b v) (ht : ∀ e, t = some e → e < 2 ^ 31) : ∀ (m p : Nat) (M : sm_M), l < m + p → p ≤ l → mfr PW M0 M → (∀ q, q < p → decide (shp κ n k s l q = t) = false) → okp (f_X12_firstWith_2 300 m (oI t) (nI p) M) (fun r => r.1 = oX (fa_first (fun q => decide (shp κ n k s l q = t)) l) l ∧ mfr PW M0 r.2) := by
  have hl2 := hO.2.1.1
  intro m
  induction m with
  | zero => intro p M a b; omega
  | succ m ih =>
    intro p M a1 a2 g b1
    have h0' := MA_w h0 g
    show okp (f_X12_firstWith_2b 300 (f_X12_firstWith_2 300 m) _ _ _) _
    unfold f_X12_firstWith_2b
    rw [h0'.2.1.1]
    by_cases h : l ≤ p
    · have e : p = l := by omega
      subst e
      rw [if_pos (nI_le h (by omega)), nl_m1]
      refine okp_some ⟨?_, g⟩
      rw [fst_all b1]
      unfold oX
      rw [if_neg (by omega)]
    · rw [if_neg (nI_ge (by omega) (by omega)), i1]
      refine okp_bind (mm_shows hO h0' (by omega) (by omega)) ?_
      rintro ⟨x, M1⟩ ⟨q1, g1⟩
      have g2 := mfr_W g (fz_w g1 (by omega) (by omega))
      simp only at q1
      subst q1
      by_cases c : shp κ n k s l p = t
      · rw [if_pos (by rw [c])]
        have e := fst_at (p := fun q => decide (shp κ n k s l q = t)) (n := l) (i := p) (by omega) b1 (by simp [c])
        refine okp_some ⟨?_, g2⟩
        rw [e]
        unfold oX
        rw [if_pos (by omega)]
      · rw [if_neg (fun q => c ((oI_eq (sh31 hO.1) ht).mp q))]
        refine ih (p + 1) M1 (by omega) (by omega) g2 (fun q hq => ?_)
        by_cases e : q = p
        · subst e
          simp [c]
        · exact b1 q (by omega)
theorem mm_fw {M0 M : sm_M} {κ n k l : Nat} {s : Nat → Nat} {hc : Nat} {hl : Nat → Nat} {hs : Nat → Nat → Nat} {b : Bf} {v : Sv} {t : Option Nat} (hO : Ok κ n k l s hc hl hs b v) (h0 : MA M0 κ n k l s hc hl hs b v) (ht : ∀ e, t = some e → e < 2 ^ 31) (g : mfr PW M0 M) : okp (f_X12_firstWith 300 (oI t) M) (fun r => r.1 = oX (fa_first (fun q => decide (shp κ n k s l q = t)) l) l ∧ mfr PW M0 r.2) := p_mfw hO h0 ht 300 0 M (by have := hO.2.1.1; omega) (by omega) g (fun q hq => by omega)
/-! shownAt, occurrences, locate -/
theorem q_13 : lq_13 IV := by
  rintro M x1 ⟨κ, n, k, l, s, hc, hl, hs, b, v, hO, hC, hM⟩
  have hl2 := hO.2.1.1
  have c1 := hC.2.1.1.1
  have key : ∀ x1, (x1 < 0 ∨ nI l ≤ x1) → lp_x "java/lang/IndexOutOfBoundsException" 1 (fun F M => f_X11_shownAt F x1 M) (fun F M => f_X12_shownAt F x1 M) IV M := by
    intro x1 hx
    refine lp_x_r 0 0 hO hC hM ?_ (fun M h => ?_)
    · show okp (f_X11_shownAt 0 x1 M) _
      unfold f_X11_shownAt
      rw [p_nPos_out c1 hx, bx_r]
      exact okp_some ⟨rfl, cfr_refl⟩
    · show okp (f_X12_shownAt 0 x1 M) _
      unfold f_X12_shownAt f_X12_shownAt_26
      obtain ⟨M0, e00, h0, hz, g0⟩ := mz0 h; rw [e00]
      rw [p_isPos_out h0.2.1.1 hx hl2, Option.bind_some, if_pos (by decide), p_fail]
      exact okp_some (mm_x g0)
  rcases pk_ix x1 (n := l) (by omega) with hx | hx | ⟨j, hj, rfl⟩
  · exact Or.inr (key x1 (Or.inl hx))
  · exact Or.inr (key x1 (Or.inr hx))
  refine Or.inl (lp_r_r 300 300 (oI (shp κ n k s l j)) hO hC hM ?_ (fun M h => ?_))
  · show okp (f_X11_shownAt 300 (nI j) M) _
    unfold f_X11_shownAt
    rw [p_nPos_in c1 hj hl2, bx_l, p_shown hO.1 hC.1.1 hC.2.1.1 (by omega) hl2 (sk8 hO.2.1 (ok_k hO.1)) (by omega) (by omega), Option.bind_some]
    exact okp_some ⟨rfl, cfr_refl⟩
  · show okp (f_X12_shownAt 300 (nI j) M) _
    unfold f_X12_shownAt f_X12_shownAt_26
    obtain ⟨M0, e00, h0, hz, g0⟩ := mz0 h; rw [e00]
    rw [p_isPos_in h0.2.1.1 hj hl2, Option.bind_some, if_neg (by decide)]
    refine okp_bind (mm_shows hO h0 (by omega) (by omega)) ?_
    rintro r ⟨q1, g1⟩
    exact okp_some (mm_w g0 hz ⟨q1, mfr_W mfr_refl (fz_w g1 (by omega) (by omega))⟩)
theorem q_14 : lq_14 IV := by
  rintro M x1 ⟨κ, n, k, l, s, hc, hl, hs, b, v, hO, hC, hM⟩
  have hl2 := hO.2.1.1
  have hE := (els_ok hO.1).2.1
  have c1 := hC.1.1.2.2.2.1
  have key : ∀ x1, (x1 < 0 ∨ nI (els κ n k).length ≤ x1) → lp_x "java/lang/IndexOutOfBoundsException" 1 (fun F M => f_X11_occurrences F x1 M) (fun F M => f_X12_occurrences F x1 M) IV M := by
    intro x1 hx
    refine lp_x_r 0 0 hO hC hM ?_ (fun M h => ?_)
    · show okp (f_X11_occurrences 0 x1 M) _
      unfold f_X11_occurrences
      rw [p_nEl_out c1 hx, bx_r]
      exact okp_some ⟨rfl, cfr_refl⟩
    · show okp (f_X12_occurrences 0 x1 M) _
      unfold f_X12_occurrences f_X12_occurrences_26
      obtain ⟨M0, e00, h0, hz, g0⟩ := mz0 h; rw [e00]
      rw [p_isEl_out h0.1.2.2.2.1 hx hE, Option.bind_some, if_pos (by decide), p_fail]
      exact okp_some (mm_x g0)
  rcases pk_ix x1 (n := (els κ n k).length) (by omega) with hx | hx | ⟨j, hj, rfl⟩
  · exact Or.inr (key x1 (Or.inl hx))
  · exact Or.inr (key x1 (Or.inr hx))
  refine Or.inl (lp_r_r 300 300 (nI (times (shp κ n k s l) l j)) hO hC hM ?_ (fun M h => ?_))
  · show okp (f_X11_occurrences 300 (nI j) M) _
    unfold f_X11_occurrences
    rw [p_nEl_in c1 hj hE, bx_l]
    refine okp_bind (cc_look hO hC) ?_
    rintro M1 ⟨q1, g1⟩
    rw [g_ib (by omega) (by omega), nI_clamp (by omega), q1.2.2.2.1 j (by omega)]
    exact okp_some ⟨rfl, cfr_z g1 (by omega)⟩
  · show okp (f_X12_occurrences 300 (nI j) M) _
    unfold f_X12_occurrences f_X12_occurrences_26
    obtain ⟨M0, e00, h0, hz, g0⟩ := mz0 h; rw [e00]
    rw [p_isEl_in h0.1.2.2.2.1 hj hE, Option.bind_some, if_neg (by decide)]
    have lp : ∀ (m p : Nat) (M : sm_M), l < m + p → p ≤ l → mfr PW M0 M → okp (f_X12_countOf__4 300 m (nI j) (nI (times (shp κ n k s l) p j)) (nI p) M) (fun r => r.1 = nI (times (shp κ n k s l) l j) ∧ mfr PW M0 r.2) := by
      intro m
      induction m with
      | zero => intro p M a b; omega
      | succ m ih =>
        intro p M a1 a2 g
        have h0' := MA_w h0 g
        show okp (f_X12_countOf__4b 300 (f_X12_countOf__4 300 m) _ _ _ _) _
        unfold f_X12_countOf__4b f_X12_countOf__27
        rw [h0'.2.1.1]
        by_cases h : l ≤ p
        · have e : p = l := by omega
          subst e
          rw [if_pos (nI_le h (by omega))]
          exact okp_some ⟨rfl, g⟩
        · rw [if_neg (nI_ge (by omega) (by omega)), i1, nl_0, nl_1, nI_add, nI_add]
          refine okp_bind (mm_shows hO h0' (by omega) (by omega)) ?_
          rintro ⟨x, M1⟩ ⟨q1, g1⟩
          have g2 := mfr_W g (fz_w g1 (by omega) (by omega))
          simp only at q1
          subst q1
          have ih1 := ih (p + 1) M1 (by omega) (by omega) g2
          unfold times at ih1 ⊢
          rw [fb_ct_succ] at ih1
          by_cases c : shp κ n k s l p = some j
          · rw [if_pos (show oI (shp κ n k s l p) = nI j by rw [c]; rfl)]
            rw [if_pos (by simp [c])] at ih1
            exact ih1
          · refine okp_f (fun q => c ((oI_eq (b := some j) (sh31 hO.1) (fun e he => by cases he; omega)).mp q)) ?_
            rw [if_neg (by simp [c])] at ih1
            exact ih1
    refine okp_bind (lp 300 0 M0 (by omega) (by omega) mfr_refl) ?_
    rintro r q
    exact okp_some (mm_w g0 hz q)
theorem q_15 : lq_15 IV := by
  rintro M x1 ⟨κ, n, k, l, s, hc, hl, hs, b, v, hO, hC, hM⟩
  have hl2 := hO.2.1.1
  have hE := (els_ok hO.1).2.1
  have c1 := hC.1.1.2.2.2.1
  have key : ∀ x1, (x1 < 0 ∨ nI (els κ n k).length ≤ x1) → lp_x "java/lang/IndexOutOfBoundsException" 1 (fun F M => f_X11_locate F x1 M) (fun F M => f_X12_locate F x1 M) IV M := by
    intro x1 hx
    refine lp_x_r 0 0 hO hC hM ?_ (fun M h => ?_)
    · show okp (f_X11_locate 0 x1 M) _
      unfold f_X11_locate
      rw [p_nEl_out c1 hx, bx_r]
      exact okp_some ⟨rfl, cfr_refl⟩
    · show okp (f_X12_locate 0 x1 M) _
      unfold f_X12_locate
      obtain ⟨M0, e00, h0, hz, g0⟩ := mz0 h; rw [e00]
      rw [p_isEl_out h0.1.2.2.2.1 hx hE, Option.bind_some, if_pos (by decide), p_fail]
      exact okp_some (mm_x g0)
  rcases pk_ix x1 (n := (els κ n k).length) (by omega) with hx | hx | ⟨j, hj, rfl⟩
  · exact Or.inr (Or.inl (key x1 (Or.inl hx)))
  · exact Or.inr (Or.inl (key x1 (Or.inr hx)))
  have mdl : ∀ M0, MA M0 κ n k l s hc hl hs b v → okp (f_X12_firstWith 300 (nI j) M0) (fun r => r.1 = oX (fst1 (shp κ n k s l) l j) l ∧ mfr PW M0 r.2) := fun M0 h0 => mm_fw (t := some j) hO h0 (fun e he => by cases he; omega) mfr_refl
  by_cases hz0 : times (shp κ n k s l) l j = 0
  · have hf : ¬ fst1 (shp κ n k s l) l j < l := fun q => fst1_lt.mp q hz0
    refine Or.inr (Or.inr (lp_x_r 300 300 hO hC hM ?_ (fun M h => ?_)))
    · show okp (f_X11_locate 300 (nI j) M) _
      unfold f_X11_locate
      rw [p_nEl_in c1 hj hE, bx_l]
      refine okp_bind (cc_look hO hC) ?_
      rintro M1 ⟨q1, g1⟩
      rw [g_ib (by omega) (by omega), nI_clamp (by omega), q1.2.2.2.1 j (by omega), hz0, if_pos (by decide)]
      exact okp_some ⟨rfl, cfr_z g1 (by omega)⟩
    · show okp (f_X12_locate 300 (nI j) M) _
      unfold f_X12_locate f_X12_locate_39
      obtain ⟨M0, e00, h0, hz, g0⟩ := mz0 h; rw [e00]
      rw [p_isEl_in h0.1.2.2.2.1 hj hE, Option.bind_some, if_neg (by decide)]
      refine okp_bind (mdl M0 h0) ?_
      rintro ⟨x, M1⟩ ⟨q1, g1⟩
      unfold oX at q1
      rw [if_neg hf] at q1
      simp only at q1
      subst q1
      rw [nl_m1, if_pos rfl, p_fail]
      exact okp_some (mm_x (mfr_tr g0 (mfr_w g1 (fun _ _ => PW_R))))
  · have hf : fst1 (shp κ n k s l) l j < l := fst1_lt.mpr hz0
    refine Or.inl (lp_r_r 300 300 (nI (fst1 (shp κ n k s l) l j)) hO hC hM ?_ (fun M h => ?_))
    · show okp (f_X11_locate 300 (nI j) M) _
      unfold f_X11_locate
      rw [p_nEl_in c1 hj hE, bx_l]
      refine okp_bind (cc_look hO hC) ?_
      rintro M1 ⟨q1, g1⟩
      have ht : times (shp κ n k s l) l j ≤ 240 := Nat.le_trans (fb_ct_le _ _) hl2
      rw [g_ib (by omega) (by omega), nI_clamp (by omega), q1.2.2.2.1 j (by omega), if_neg (nI_ne0 (by omega) (by omega)), g_ib (by omega) (by omega), q1.2.2.2.2 j (by omega) hz0]
      exact okp_some ⟨rfl, cfr_z g1 (by omega)⟩
    · show okp (f_X12_locate 300 (nI j) M) _
      unfold f_X12_locate f_X12_locate_39
      obtain ⟨M0, e00, h0, hz, g0⟩ := mz0 h; rw [e00]
      rw [p_isEl_in h0.1.2.2.2.1 hj hE, Option.bind_some, if_neg (by decide)]
      refine okp_bind (mdl M0 h0) ?_
      rintro ⟨x, M1⟩ ⟨q1, g1⟩
      unfold oX at q1
      rw [if_pos hf] at q1
      simp only at q1
      subst q1
      rw [nl_m1, if_neg (fun q => (mN_eq (by omega)).mp q)]
      exact okp_some (mm_w (r := (nI (fst1 (shp κ n k s l) l j), M1)) g0 hz ⟨rfl, g1⟩)
