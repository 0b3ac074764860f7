/-! ===== extendGreedily: the reference ===== -/
theorem p_mend {κ n k z : Nat} {w : Nat → Nat} {M0 : sm_M} (ho : okF κ n k = true) (hF : MF M0 κ n k) (hz : n ≤ z) (hz2 : z ≤ 240) (h9 : ∀ i, i < z → M0.1 89 i = nI (w i)) (hw : ∀ i, i < z → w i < k) : okp (f_X12_endShows 300 (nI z) M0) (fun r => r.1 = oI (shl κ n k w (z - n)) ∧ fz 92 93 M0 r.2) := by
  obtain ⟨o1, o2, o3, o4, o5, -, -⟩ := okF_of ho
  have key : ∀ (m i : Nat) (M : sm_M), n < m + i → i ≤ n → fz 92 93 M0 M → (∀ j, j < i → M.1 92 j = nI (w (z - n + j))) → okp (f_X12_endShows_2 300 m (nI z) (nI i) M) (fun r => r.1 = oI (shl κ n k w (z - n)) ∧ fz 92 93 M0 r.2) := by
    intro m
    induction m with
    | zero => intro i M a b; omega
    | succ m ih =>
      intro i M a1 a2 g a3
      have hF' := MF_w hF (fz_w g (by omega) (by omega))
      show okp (f_X12_endShows_2b 300 (f_X12_endShows_2 300 m) _ _ _) _
      unfold f_X12_endShows_2b
      rw [hF'.2.1, fz_1 g (a := 89) (by omega)]
      by_cases h : n ≤ i
      · have e : i = n := by omega
        subst e
        rw [if_pos (nI_le h (by omega)), p_mshown (w := fun j => w (z - i + j)) ho hF' a3 (fun j hj => hw _ (by omega)) (by omega), Option.bind_some]
        exact okp_some ⟨rfl, g⟩
      · rw [if_neg (nI_ge (by omega) (by omega)), pk_sub hz, nI_add, g_ib (by omega) (by omega), g_ib (by omega) (by omega), nI_clamp (by omega), nI_clamp (by omega), h9 _ (by omega), i1]
        refine ih (i + 1) _ (by omega) (by omega) (fz_then g (by omega) (by omega)) (fun j hj => ?_)
        by_cases e : j = i
        · subst e
          rw [mi_eq]
        · rw [mi_ni e]
          exact a3 j (by omega)
  exact key 300 0 M0 (by omega) (by omega) fz_refl (fun j hj => by omega)
/-- a mark for what the last window shows -/
theorem p_see {κ n k z : Nat} {w : Nat → Nat} {M0 : sm_M} (ho : okF κ n k = true) (hF : MF M0 κ n k) (hz2 : z ≤ 240) (h9 : ∀ i, i < z → M0.1 89 i = nI (w i)) (hw : ∀ i, i < z → w i < k) : okp (f_X12_see 300 (nI z) M0) (fun M' => fz 92 94 M0 M' ∧ ((z < n ∨ shl κ n k w (z - n) = none) → M'.1 93 = M0.1 93) ∧ ∀ e, n ≤ z → shl κ n k w (z - n) = some e → M'.1 93 = (sm_mi M0 93 e (nI 1)).1 93) := by
  obtain ⟨o1, o2, o3, o4, o5, -, -⟩ := okF_of ho
  unfold f_X12_see f_X12_see_28
  rw [hF.2.1, nl_m1, nl_1, vb_1]
  by_cases c : z < n
  · rw [if_pos (nI_lt c (by omega))]
    exact okp_some ⟨fz_refl, fun _ => rfl, fun e h => by omega⟩
  · rw [if_neg (nI_nlt (by omega) (by omega))]
    refine okp_bind (p_mend ho hF (by omega) hz2 h9 hw) ?_
    rintro ⟨x, M1⟩ ⟨q1, g1⟩
    have q1' : x = _ := q1
    subst q1'
    have gw := fz_w (l := 92) (h := 94) g1 (by omega) (by omega)
    cases hsh : shl κ n k w (z - n) with
    | none =>
      refine okp_t rfl (okp_some ⟨gw, fun _ => fz_1 g1 (by omega), fun e _ h => by cases h⟩)
    | some e =>
      have h2 := shl_lt ho hsh
      refine okp_f (fun q => (mN_eq (show e < 2 ^ 31 by omega)).mp q) ?_
      refine okp_bind (p_mend (z := z) (w := w) ho (MF_w hF (fz_w g1 (by omega) (by omega))) (by omega) hz2 (fun i hi => by rw [fz_1 g1 (by omega)]; exact h9 i hi) hw) ?_
      rintro ⟨y, M2⟩ ⟨q2, g2⟩
      have q2' : y = nI e := by
        have : y = oI (shl κ n k w (z - n)) := q2
        rw [this, hsh]
        rfl
      subst q2'
      show okp (sm_g (sm_ib (nI e) 200) (some (sm_mi M2 93 (nI e).toNatClampNeg (nI 1)))) _
      rw [g_ib h2 (by omega), nI_clamp (by omega)]
      refine okp_some ⟨fz_then (fz_tr gw g2 (by omega) (by omega) (by omega) (by omega)) (by omega) (by omega), fun h => ?_, fun e' _ h => ?_⟩
      · rcases h with h | h
        · omega
        · cases h
      · cases h
        funext j
        rw [mi_1, mi_1, fz_1 g2 (by omega), fz_1 g1 (by omega)]
theorem MA_9 {M : sm_M} {κ n k l : Nat} {s : Nat → Nat} {hc : Nat} {hl : Nat → Nat} {hs : Nat → Nat → Nat} {b : Bf} {v : Sv} {M' : sm_M} (h : MA M κ n k l s hc hl hs b v) (g : fz 92 101 M M') : MA M' κ n k l s hc hl hs b v := MA_w h (mfr_W mfr_refl g)
theorem p_mgr {κ n k l L : Nat} {s w : Nat → Nat} {hc : Nat} {hl : Nat → Nat} {hs : Nat → Nat → Nat} {b : Bf} {v : Sv} {U : Nat → Bool} {M0 : sm_M} (hO : Ok κ n k l s hc hl hs b v) (h0 : MA M0 κ n k l s hc hl hs b v) (hL : L < 240) (hn : n ≤ L + 1) (hw : ∀ i, i < L → w i < k) : ∀ (m t : Nat) (M : sm_M), t < m → t ≤ k → mfr PW M0 M → (∀ i, i < L → M.1 89 i = nI (w i)) → (∀ e, e < 200 → M.1 93 e = bI (U e)) → okp (f_X12_greatest_7 300 m (nI L) (nI t - nI 1) M) (fun r => r.1 = (match gfd κ n k w L U t with | none => mN | some (t', _) => nI t') ∧ mfr PW M0 r.2 ∧ (∀ i, i < L → r.2.1 89 i = nI (w i)) ∧ ∀ e, e < 200 → r.2.1 93 e = bI (U e)) := by
  obtain ⟨o1, o2, o3, o4, o5, -, -⟩ := okF_of hO.1
  intro m
  induction m with
  | zero => intro t M a; omega
  | succ m ih =>
    intro t M a1 a2 g b1 b2
    show okp (f_X12_greatest_7b 300 (f_X12_greatest_7 300 m) _ _ _) _
    unfold f_X12_greatest_7b f_X12_greatest_42
    cases t with
    | zero =>
      rw [if_pos (pk_sneg (by omega) (by omega))]
      exact okp_some ⟨rfl, g, b1, b2⟩
    | succ t =>
      rw [pk_sub (by omega), Nat.add_sub_cancel, if_neg (nI_pos (by omega)), g_ib (by omega) (by omega), nI_clamp (by omega), nl_m1, nl_1, nI_add]
      have g1 : mfr PW M0 (sm_mi M 89 L (nI t)) := mfr_mi g (by unfold PW; omega)
      have h9 : ∀ i, i < L + 1 → (sm_mi M 89 L (nI t)).1 89 i = nI (up1 w L t i) := fun i hi => by
        unfold up1
        by_cases e : i = L
        · subst e
          rw [mi_eq, if_pos rfl]
        · rw [mi_ni e, if_neg e]
          exact b1 i (by omega)
      refine okp_bind (p_mend hO.1 (MA_w h0 g1).1 hn (by omega) h9 (up1_lt hw (by omega))) ?_
      rintro ⟨x, M1⟩ ⟨q1, g2⟩
      have q1' : x = _ := q1
      subst q1'
      have g3 := mfr_W g1 (fz_w g2 (by omega) (by omega))
      have c1 : ∀ i, i < L → M1.1 89 i = nI (w i) := fun i hi => by
        rw [fz_1 g2 (by omega), mi_ni (by omega)]
        exact b1 i hi
      have c2 : ∀ e, e < 200 → M1.1 93 e = bI (U e) := fun e he => by
        rw [fz_1 g2 (by omega), mi_na (by omega)]
        exact b2 e he
      have e2 : nI t + (-1) = nI t - nI 1 := by
        rw [Int32.sub_eq_add_neg]
        rfl
      have e3 : nI t + mN = nI t - nI 1 := e2
      have back := ih t M1 (by omega) (by omega) g3 c1 c2
      cases hs : shl κ n k (up1 w L t) (L + 1 - n) with
      | none =>
        refine okp_t rfl ?_
        rw [gfd, hs, e3]
        exact back
      | some e =>
        have h2 := shl_lt hO.1 hs
        refine okp_f (fun q => (mN_eq (show e < 2 ^ 31 by omega)).mp q) ?_
        show okp (sm_g (sm_ib (nI e) 200) (if M1.1 93 (nI e).toNatClampNeg = 0 then some (nI t, M1) else (f_X12_greatest_7 300 m (nI L) (nI t + mN) M1))) _
        rw [g_ib h2 (by omega), nI_clamp (by omega), c2 e h2, gfd, hs, e3]
        simp only
        by_cases c : U e = true
        · rw [if_pos c]
          refine okp_f (fun q => ?_) back
          have := bI_0.mp q
          rw [c] at this
          cases this
        · rw [if_neg c]
          exact okp_t (bI_0.mpr (by simpa using c)) (okp_some ⟨rfl, g3, c1, c2⟩)
theorem p_mext {κ n k l : Nat} {s : Nat → Nat} {hc : Nat} {hl : Nat → Nat} {hs : Nat → Nat → Nat} {b : Bf} {v : Sv} {M0 : sm_M} (hO : Ok κ n k l s hc hl hs b v) (h0 : MA M0 κ n k l s hc hl hs b v) : ∀ (m f L : Nat) (w : Nat → Nat) (U : Nat → Bool) (M : sm_M), 241 < m + L → 240 < f + L → l ≤ L → L ≤ 240 → (∀ i, i < L → w i < k) → mfr PW M0 M → (∀ i, i < L → M.1 89 i = nI (w i)) → (∀ e, e < 200 → M.1 93 e = bI (U e)) → okp (f_X12_extendGreedily_69 300 m (nI L) (nI 1) M) (fun r => r.1 = nI ((grun κ n k f L w U).1 - l) ∧ MsQ r.2 (grun κ n k f L w U).1 (grun κ n k f L w U).2 (hup hc) (hcons l hl) (hcons s hs) ∧ mfr PZ M0 r.2) := by
  obtain ⟨o1, o2, o3, o4, o5, -, -⟩ := okF_of hO.1
  have fin : ∀ (L : Nat) (w : Nat → Nat) (M : sm_M), l ≤ L → L ≤ 240 → mfr PW M0 M → (∀ i, i < L → M.1 89 i = nI (w i)) → okp (f_X12_extendGreedily_133 300 (nI L) M) (fun r => r.1 = nI (L - l) ∧ MsQ r.2 L w (hup hc) (hcons l hl) (hcons s hs) ∧ mfr PZ M0 r.2) := by
    intro L w M a1 a2 g b1
    unfold f_X12_extendGreedily_133
    rw [(MA_w h0 g).2.1.1, pk_sub a1]
    refine okp_bind (mm_made hO.2.1 h0 g a2 b1) ?_
    rintro M' ⟨q1, q2⟩
    exact okp_some ⟨rfl, q1, q2⟩
  intro m
  induction m with
  | zero => intro f L w U M a; omega
  | succ m ih =>
    intro f L w U M a1 a2 a3 a4 hw g b1 b2
    cases f with
    | zero => omega
    | succ f =>
      have h0' := MA_w h0 g
      show okp (f_X12_extendGreedily_69b 300 (f_X12_extendGreedily_69 300 m) _ _ _) _
      unfold f_X12_extendGreedily_69b
      rw [if_neg (by decide), nl_240, grun]
      by_cases c : 240 ≤ L
      · rw [if_pos (nI_le c (by omega)), if_pos c]
        exact fin L w M a3 a4 g b1
      · rw [if_neg (nI_ge (by omega) (by omega)), if_neg c, h0'.1.2.1, nl_1, nI_add]
        /- a symbol is put -/
        have put : ∀ (t : Nat) (U' : Nat → Bool) (M1 : sm_M), t < k → mfr PW M0 M1 → (∀ i, i < L → M1.1 89 i = nI (w i)) → (∀ M2 : sm_M, M2.1 89 = (sm_mi M1 89 L (nI t)).1 89 → ((L + 1 < n ∨ shl κ n k (up1 w L t) (L + 1 - n) = none) → M2.1 93 = M1.1 93) → (∀ e, n ≤ L + 1 → shl κ n k (up1 w L t) (L + 1 - n) = some e → M2.1 93 = (sm_mi M1 93 e (nI 1)).1 93) → ∀ e, e < 200 → M2.1 93 e = bI (U' e)) → okp (f_X12_extendGreedily_99 300 (f_X12_extendGreedily_69 300 m) (nI L) (nI t) M1) (fun r => r.1 = nI ((grun κ n k f (L + 1) (up1 w L t) U').1 - l) ∧ MsQ r.2 (grun κ n k f (L + 1) (up1 w L t) U').1 (grun κ n k f (L + 1) (up1 w L t) U').2 (hup hc) (hcons l hl) (hcons s hs) ∧ mfr PZ M0 r.2) := by
          intro t U' M1 ht gm c1 c2
          unfold f_X12_extendGreedily_99 f_X12_extendGreedily_110 f_X12_extendGreedily_130
          rw [nl_m1, if_neg (fun q => (mN_eq (by omega)).mp q), if_neg (by decide), g_ib (by omega) (by omega), nI_clamp (by omega), i1]
          have g1 : mfr PW M0 (sm_mi M1 89 L (nI t)) := mfr_mi gm (by unfold PW; omega)
          have h9 : ∀ i, i < L + 1 → (sm_mi M1 89 L (nI t)).1 89 i = nI (up1 w L t i) := fun i hi => by
            unfold up1
            by_cases e : i = L
            · subst e
              rw [mi_eq, if_pos rfl]
            · rw [mi_ni e, if_neg e]
              exact c1 i (by omega)
          refine okp_bind (p_see hO.1 (MA_w h0 g1).1 (by omega) h9 (up1_lt hw ht)) ?_
          rintro M2 ⟨q1, q2, q3⟩
          have e9 : M2.1 89 = (sm_mi M1 89 L (nI t)).1 89 := fz_1 q1 (by omega)
          refine ih f (L + 1) (up1 w L t) U' M2 (by omega) (by omega) (by omega) (by omega) (up1_lt hw ht) (mfr_W g1 (fz_w q1 (by omega) (by omega))) (fun i hi => by rw [e9]; exact h9 i hi) ?_
          refine c2 M2 e9 (fun h => ?_) (fun e h1 h2 => ?_)
          · rw [q2 h, mi_na (by omega)]
          · rw [q3 e h1 h2]
            funext j
            show (if 93 = 93 ∧ j = e then nI 1 else (sm_mi M1 89 L (nI t)).1 93 j) = (if 93 = 93 ∧ j = e then nI 1 else M1.1 93 j)
            rw [mi_na (by omega)]
        by_cases d : L + 1 < n
        · rw [if_neg (nI_ge d (by omega)), if_pos d, nl_0]
          exact put 0 U M (by omega) g b1 (fun M2 _ h1 _ e he => by rw [h1 (Or.inl d)]; exact b2 e he)
        · rw [if_pos (nI_le (by omega) (by omega)), if_neg d]
          unfold f_X12_greatest
          rw [h0'.1.2.2.1, nl_1]
          refine okp_bind (p_mgr hO h0 (by omega) (by omega) hw 300 k M (by omega) (by omega) g b1 b2) ?_
          rintro ⟨x, M1⟩ ⟨q1, q2, q3, q4⟩
          cases hg : gfd κ n k w L U k with
          | none =>
            rw [hg] at q1
            have q1' : x = mN := q1
            subst q1'
            show okp (f_X12_extendGreedily_99 300 (f_X12_extendGreedily_69 300 m) (nI L) mN M1) _
            unfold f_X12_extendGreedily_99 f_X12_extendGreedily_110 f_X12_extendGreedily_130
            rw [nl_m1, if_pos rfl, if_pos (by decide)]
            cases m with
            | zero => omega
            | succ m =>
              show okp (f_X12_extendGreedily_69b 300 (f_X12_extendGreedily_69 300 m) _ _ _) _
              unfold f_X12_extendGreedily_69b
              rw [if_pos (by decide)]
              exact fin L w M1 a3 a4 q2 q3
          | some te =>
            obtain ⟨t, e⟩ := te
            rw [hg] at q1
            have q1' : x = nI t := q1
            subst q1'
            have hlt := gfd_lt hg
            refine put t (addu U e) M1 (by omega) q2 q3 (fun M2 _ _ h2 => ?_)
            rw [h2 e (by omega) hlt.2]
            exact used_set q4
theorem q_30 : lq_30 IV := by
  rintro M ⟨κ, n, k, l, s, hc, hl, hs, b, v, hO, hC, hM⟩
  obtain ⟨o1, o2, o3, o4, o5, -, -⟩ := okF_of hO.1
  have hl2 := hO.2.1.1
  have hsk := hO.2.1.2.1
  have h8 := sk8 hO.2.1 o5
  have ok := grun_ok (κ := κ) (n := n) o4 241 l s (mkU κ n k s (l + 1 - n)) hl2 hsk
  refine lp_d_q (l' := (grun κ n k 241 l s (mkU κ n k s (l + 1 - n))).1) (s' := (grun κ n k 241 l s (mkU κ n k s (l + 1 - n))).2) 300 300 (nI ((grun κ n k 241 l s (mkU κ n k s (l + 1 - n))).1 - l)) hO hC hM (okQ_rec hO.2.1 ok.2.1 ok.2.2) ?_ (fun M h => ?_)
  · show okp (f_X11_extendGreedily 300 M) _
    unfold f_X11_extendGreedily
    refine okp_bind (cc_rem hO.2.1 hC.2.1) ?_
    rintro ⟨a, M1⟩ ⟨q1, q2, q3, q4, g1⟩
    have hf1 : famp M1 κ n k := famp_f hC.1.1 g1 (by omega)
    unfold f_X5_extend
    show okp (((f_X5_markWindows 300 24 M1).bind fun q1 => f_X5_extend_14 300 24 300 (1 : Int32) (q1.1 24 1) q1).bind _) _
    have hx : okp ((f_X5_markWindows 300 24 M1).bind fun q1 => f_X5_extend_14 300 24 300 (1 : Int32) (q1.1 24 1) q1) (fun M' => rowp M' 24 (grun κ n k 241 l s (mkU κ n k s (l + 1 - n))).1 (grun κ n k 241 l s (mkU κ n k s (l + 1 - n))).2 ∧ gfz M1 M') := by
      refine okp_bind (cc_mark hO.1 hf1 q1.1 hl2 h8) ?_
      rintro M2 ⟨r1, r2⟩
      have rr := rowp_f q1.1 r2 (by omega)
      rw [rr.1]
      refine okp_mono (p_ext hO.1 (famp_f hf1 r2 (by omega)) 300 241 l s _ M2 (by omega) (by omega) hl2 hsk gfz_refl rr r1) ?_
      rintro M3 ⟨r3, r4⟩
      exact ⟨r3, gfz_tr (gfz_63 r2) r4⟩
    refine okp_bind hx ?_
    rintro M3 ⟨r3, r4⟩
    have ha : a ≠ 24 ∧ a ≠ 25 ∧ a ≠ 63 := by simp only at q3 q4; omega
    have e1 : M3.1 a 1 = nI l := by
      rw [(r4 a ha.1 ha.2.1 ha.2.2).1]
      exact q2.1
    show okp (some (M3.1 24 1 - M3.1 a 1, M3)) _
    rw [r3.1, e1, pk_sub ok.1]
    obtain ⟨nw, h1, h2, h3, h4, h5⟩ := q1.2
    refine okp_some ⟨rfl, ⟨r3, nw, h1, by rw [(r4 26 (by omega) (by omega) (by omega)).1]; exact h2, by rw [(r4 26 (by omega) (by omega) (by omega)).1]; exact h3, h4, fun j hj => ?_⟩, cfq_tr (cfq_z g1 (by omega)) (fun x hx => r4 x (by omega) (by omega) (by omega))⟩
    have : (nw + 12 - j) % 12 < 12 := Nat.mod_lt _ (by decide)
    exact rowp_c (h5 j hj) (r4 _ (by omega) (by omega) (by omega)).1 (r4 _ (by omega) (by omega) (by omega)).1
  · show okp (f_X12_extendGreedily 300 M) _
    unfold f_X12_extendGreedily
    obtain ⟨M0, e00, h0, hz, g0⟩ := mz0 h; rw [e00]
    rw [h0.2.1.1]
    have key2 : ∀ (m i : Nat) (M : sm_M), l < m + i → i ≤ l → mfr PW M0 M → (∀ j, j < i → M.1 89 j = nI (s j)) → (∀ e, e < 200 → M.1 93 e = bI (mkU κ n k s (i + 1 - n) e)) → okp (f_X12_extendGreedily_34 300 m (nI l) (nI i) M) (fun r => r.1 = nI ((grun κ n k 241 l s (mkU κ n k s (l + 1 - n))).1 - l) ∧ MsQ r.2 (grun κ n k 241 l s (mkU κ n k s (l + 1 - n))).1 (grun κ n k 241 l s (mkU κ n k s (l + 1 - n))).2 (hup hc) (hcons l hl) (hcons s hs) ∧ mfr PZ M0 r.2) := by
      intro m
      induction m with
      | zero => intro i M a b; omega
      | succ m ih =>
        intro i M a1 a2 g b1 b2
        have h0' := MA_w h0 g
        show okp (f_X12_extendGreedily_34b 300 (f_X12_extendGreedily_34 300 m) _ _ _) _
        unfold f_X12_extendGreedily_34b
        rw [h0'.2.1.1]
        by_cases c : l ≤ i
        · have e : i = l := by omega
          subst e
          rw [if_pos (nI_le c (by omega))]
          exact p_mext hO h0 300 241 i s _ M (by omega) (by omega) (by omega) hl2 hsk g b1 b2
        · rw [if_neg (nI_ge (by omega) (by omega)), g_ib (by omega) (by omega), g_ib (by omega) (by omega), nI_clamp (by omega), h0'.2.1.2.1 i (by omega), i1]
          have g1 : mfr PW M0 (sm_mi M 89 i (nI (s i))) := mfr_mi g (by unfold PW; omega)
          have h9 : ∀ j, j < i + 1 → (sm_mi M 89 i (nI (s i))).1 89 j = nI (s j) := fun j hj => by
            by_cases e : j = i
            · subst e
              rw [mi_eq]
            · rw [mi_ni e]
              exact b1 j (by omega)
          refine okp_bind (p_see hO.1 (MA_w h0 g1).1 (by omega) h9 (fun j hj => hsk j (by omega))) ?_
          rintro M2 ⟨q1, q2, q3⟩
          refine ih (i + 1) M2 (by omega) (by omega) (mfr_W g1 (fz_w q1 (by omega) (by omega))) (fun j hj => by rw [fz_1 q1 (by omega)]; exact h9 j hj) ?_
          have u1 : ∀ e, e < 200 → (sm_mi M 89 i (nI (s i))).1 93 e = bI (mkU κ n k s (i + 1 - n) e) := fun e he => by rw [mi_na (by omega)]; exact b2 e he
          by_cases d : i + 1 < n
          · rw [q2 (Or.inl d)]
            have e1 : i + 1 + 1 - n = 0 := by omega
            have e2 : i + 1 - n = 0 := by omega
            rw [e1]
            rw [e2] at u1
            exact u1
          · have e1 : i + 1 + 1 - n = (i + 1 - n) + 1 := by omega
            rw [e1]
            cases hsh : shl κ n k s (i + 1 - n) with
            | none =>
              rw [q2 (Or.inr hsh)]
              intro e he
              rw [mkU_no hsh]
              exact u1 e he
            | some e =>
              rw [q3 e (by omega) hsh]
              exact mkU_set hsh u1
    have key : ∀ (m i : Nat) (M : sm_M), 200 < m + i → i ≤ 200 → mfr PW M0 M → (∀ e, e < i → M.1 93 e = nI 0) → okp (f_X12_extendGreedily_12 300 m (nI l) (nI i) M) (fun r => r.1 = nI ((grun κ n k 241 l s (mkU κ n k s (l + 1 - n))).1 - l) ∧ MsQ r.2 (grun κ n k 241 l s (mkU κ n k s (l + 1 - n))).1 (grun κ n k 241 l s (mkU κ n k s (l + 1 - n))).2 (hup hc) (hcons l hl) (hcons s hs) ∧ mfr PZ M0 r.2) := by
      intro m
      induction m with
      | zero => intro i M a b; omega
      | succ m ih =>
        intro i M a1 a2 g b1
        show okp (f_X12_extendGreedily_12b 300 (f_X12_extendGreedily_12 300 m) _ _ _) _
        unfold f_X12_extendGreedily_12b
        rw [nl_200, nl_0, vb_0, i1]
        by_cases c : 200 ≤ i
        · rw [if_pos (nI_le c (by omega))]
          have e1 : 0 + 1 - n = 0 := by omega
          refine key2 300 0 M (by omega) (by omega) g (fun j hj => by omega) (fun e he => ?_)
          rw [b1 e (by omega), e1]
          rfl
        · rw [if_neg (nI_ge (by omega) (by omega)), g_ib (by omega) (by omega), nI_clamp (by omega)]
          refine ih (i + 1) _ (by omega) (by omega) (mfr_mi g (by unfold PW; omega)) (fun e he => ?_)
          by_cases q : e = i
          · subst q
            rw [mi_eq]
          · rw [mi_ni q]
            exact b1 e (by omega)
    exact okp_mono (key 300 0 M0 (by omega) (by omega) mfr_refl (fun e he => by omega)) (fun r q => mm_zd g0 q)
