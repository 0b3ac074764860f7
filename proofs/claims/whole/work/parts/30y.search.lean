/-! ===== search: the two together ===== -/
theorem mm_madeF {M : sm_M} {κ n k l : Nat} {s : Nat → Nat} {hc : Nat} {hl : Nat → Nat} {hs : Nat → Nat → Nat} {b : Bf} {v : Sv} {F : Nat} {M1 : sm_M} {s' : Nat → Nat} {l' : Nat} (hO : okQ k l s hc hl hs) (h0 : MA M κ n k l s hc hl hs b v) (g : mfr PW M M1) (hl3 : l' ≤ 240) (hmd : ∀ i, i < l' → M1.1 89 i = nI (s' i)) (hF : 240 < F) : okp (f_X12_replace F (nI l') M1) (fun M' => MsQ M' l' s' (hup hc) (hcons l hl) (hcons s hs) ∧ mfr PZ M M') := okp_mono (p_replace hF (MA_w h0 g).2.1 hO.1 hO.2.2.1 (fun j hj => (hO.2.2.2 j hj).1) hl3 hmd) (fun _ q => ⟨q.1, mfr_tr (mfr_w g (fun _ _ => PW_Z)) (mfr_w q.2 (fun _ _ => PS_Z))⟩)
def spo (E l : Nat) (s : Nat → Nat) (hc : Nat) (hl : Nat → Nat) (hs : Nat → Nat → Nat) (M0 : sm_M) (t : Nat × Nat × (Nat → Nat)) (r : Int32 × sm_M) : Prop := (t.1 = 0 → r.1 = nI t.2.1 ∧ MsQ r.2 E t.2.2 (hup hc) (hcons l hl) (hcons s hs) ∧ mfr PZ M0 r.2) ∧ (t.1 = 1 → r.2.1 80 0 = 2 ∧ mfr PR M0 r.2) ∧ (t.1 = 2 → r.2.1 80 0 = 3 ∧ mfr PR M0 r.2)
def srS (κ n k E r c pos : Nat) (w : Nat → Nat) (t : Nat) : Nat × Nat × (Nat → Nat) := if t < k then sr κ n k E r c pos (up1 w pos t) else match bk k w pos with
  | 0 => (2, 0, w)
  | p + 1 => sr κ n k E r c p (up1 w p (w p + 1))
theorem spo_2 {E l : Nat} {s : Nat → Nat} {hc : Nat} {hl : Nat → Nat} {hs : Nat → Nat → Nat} {M0 : sm_M} {c c' : Nat} {w w' : Nat → Nat} {r : Int32 × sm_M} (h : spo E l s hc hl hs M0 (2, c, w) r) : spo E l s hc hl hs M0 (2, c', w') r := ⟨fun q => absurd (show (2 : Nat) = 0 from q) (by decide), fun q => absurd (show (2 : Nat) = 1 from q) (by decide), fun _ => h.2.2 rfl⟩
theorem p_msr {F lim κ n k l : Nat} {s : Nat → Nat} {hc : Nat} {hl : Nat → Nat} {hs : Nat → Nat → Nat} {b : Bf} {v : Sv} {M0 : sm_M} (hO : Ok κ n k l s hc hl hs b v) (h0 : MA M0 κ n k l s hc hl hs b v) (hF : 300 ≤ F) (hlim : lim ≤ 30000) : ∀ (m r c pos t : Nat) (w : Nat → Nat) (M : sm_M), 2 * r + pos + 2 < m → c + r = lim → pos < (els κ n k).length → t ≤ k → mfr PW M0 M → (∀ i, i < pos → M.1 89 i = nI (w i)) → (∀ i, i < pos → w i < k) → (∀ q, q < cdn n pos → M.1 94 q = oI (shp κ n k w (els κ n k).length q)) → okp (f_X12_search_29 F m (nI lim) (nI c) (nI pos) (nI t) M) (spo (els κ n k).length l s hc hl hs M0 (srS κ n k (els κ n k).length r c pos w t)) := by
  obtain ⟨o1, o2, o3, o4, o5, -, -⟩ := okF_of hO.1
  have h200 := (els_ok hO.1).2.1
  have hE1 := els_pos hO.1
  generalize hE : (els κ n k).length = E at *
  intro m
  induction m with
  | zero => intro r c pos t w M a; omega
  | succ m ih =>
    intro r c pos t w M a1 a2 a3 a4 g b1 b2 b3
    have h0' := MA_w h0 g
    have hm5 : M.1 80 5 = nI E := by rw [h0'.1.2.2.2.1, hE]
    show okp (f_X12_search_29b F (f_X12_search_29 F m) _ _ _ _ _) _
    unfold f_X12_search_29b
    rw [hm5, h0'.1.2.2.1, if_neg (nI_ge a3 (by omega))]
    by_cases c1 : t < k
    · rw [if_neg (fun q => by have := (nI_eq (by omega) (by omega)).mp q; omega)]
      unfold srS
      rw [if_pos c1]
      cases r with
      | zero =>
        have e : c = lim := by omega
        rw [if_pos (by rw [e]), p_fail]
        exact okp_some ⟨fun q => absurd (show (1 : Nat) = 0 from q) (by decide), fun _ => ⟨mi_eq _ _ _ _, mfr_mi (mfr_w g (fun _ _ => PW_R)) (by unfold PR; omega)⟩, fun q => absurd (show (1 : Nat) = 2 from q) (by decide)⟩
      | succ r =>
        rw [if_neg (fun q => by have := (nI_eq (by omega) (by omega)).mp q; omega), g_ib (by omega) (by omega), nI_clamp (by omega)]
        have g1 : mfr PW M0 (sm_mi M 89 pos (nI t)) := mfr_mi g (by unfold PW; omega)
        have h9 : ∀ i, i ≤ pos → (sm_mi M 89 pos (nI t)).1 89 i = nI (up1 w pos t i) := fun i hi => by
          unfold up1
          by_cases e : i = pos
          · subst e
            rw [mi_eq, if_pos rfl]
          · rw [mi_ni e, if_neg e]
            exact b1 i (by omega)
        have hw : ∀ i, i ≤ pos → up1 w pos t i < k := fun i hi => up1_lt b2 c1 i (by omega)
        have h4 : ∀ q, q < cdn n pos → (sm_mi M 89 pos (nI t)).1 94 q = oI (shp κ n k (up1 w pos t) E q) := fun q hq => by
          rw [mi_na (by omega), shp_up (by unfold cdn at hq; omega) (by omega)]
          exact b3 q hq
        refine okp_bind (p_mgood hO.1 hE.symm hE1 (MA_w h0 g1).1 a3 h9 hw h4 hF) ?_
        rintro ⟨x, M1⟩ ⟨q1, q2, q3, g2⟩
        have q1' : x = bI (gdb κ n k E (up1 w pos t) pos) := q1
        subst q1'
        have g3 := mfr_n g1 g2
        have m9 : M1.1 89 = (sm_mi M 89 pos (nI t)).1 89 := (g2 89 (by omega) (by omega)).1
        rw [sr]
        cases hg : gdb κ n k E (up1 w pos t) pos with
        | true =>
          rw [if_pos rfl]
          refine okp_f (show ¬ bI true = (0 : Int32) by decide) ?_
          show okp (f_X12_search_112 F (f_X12_search_29 F m) (nI lim) (nI c + 1) (nI t) (nI 1) (nI pos) (1 : Int32) M1) _
          unfold f_X12_search_112 f_X12_search_127
          rw [if_neg (by decide), i1, nl_1, nI_add]
          by_cases d : pos = E - 1
          · rw [if_pos d]
            have e1 : pos + 1 = E := by omega
            rw [e1]
            cases m with
            | zero => omega
            | succ m =>
              show okp (f_X12_search_29b F (f_X12_search_29 F m) _ _ _ _ _) _
              unfold f_X12_search_29b
              have hm5' : M1.1 80 5 = nI E := by rw [(MA_w h0 g3).1.2.2.2.1, hE]
              rw [hm5', if_pos (nI_le (Nat.le_refl _) (by omega))]
              refine okp_bind (mm_madeF (l' := E) (s' := up1 w pos t) hO.2.1 h0 g3 (by omega) (fun i hi => by rw [m9]; exact h9 i (by omega)) (by omega)) ?_
              rintro M2 ⟨r1, r2⟩
              exact okp_some ⟨fun _ => ⟨rfl, r1, r2⟩, fun q => absurd (show (0 : Nat) = 1 from q) (by decide), fun q => absurd (show (0 : Nat) = 2 from q) (by decide)⟩
          · rw [if_neg d]
            have hcu : cup n E pos = cdn n (pos + 1) := by unfold cup cdn; rw [if_neg d]
            have := ih r (c + 1) (pos + 1) 0 (up1 w pos t) M1 (by omega) (by omega) (by omega) (by omega) g3 (fun i hi => by rw [m9]; exact h9 i (by omega)) (fun i hi => hw i (by omega)) (fun q hq => q2 hg q (by rw [hcu]; exact hq))
            unfold srS at this
            rw [if_pos (show 0 < k by omega)] at this
            exact this
        | false =>
          rw [if_neg (show ¬ false = true by decide)]
          refine okp_t (show bI false = (0 : Int32) by decide) ?_
          show okp (f_X12_search_112 F (f_X12_search_29 F m) (nI lim) (nI c + 1) (nI t) (nI 0) (nI pos) (0 : Int32) M1) _
          unfold f_X12_search_112 f_X12_search_127
          rw [if_pos (by decide), i1, nl_0, nl_1, nI_add, nI_add, Nat.add_zero]
          have ih1 := ih r (c + 1) pos (t + 1) (up1 w pos t) M1 (by omega) (by omega) a3 (by omega) g3 (fun i hi => by rw [m9]; exact h9 i (by omega)) (fun i hi => hw i (by omega)) q3
          have ep : up1 w pos t pos = t := by unfold up1; rw [if_pos rfl]
          have eb : bk k (up1 w pos t) (pos + 1) = if t + 1 < k then pos + 1 else bk k (up1 w pos t) pos := by
            show (if up1 w pos t pos + 1 < k then pos + 1 else bk k (up1 w pos t) pos) = _
            rw [ep]
          rw [eb]
          unfold srS at ih1
          by_cases d : t + 1 < k
          · rw [if_pos d]
            rw [if_pos d] at ih1
            simp only
            rw [ep]
            exact ih1
          · rw [if_neg d]
            rw [if_neg d] at ih1
            cases hb : bk k (up1 w pos t) pos with
            | zero =>
              rw [hb] at ih1
              exact okp_mono ih1 (fun r q => spo_2 q)
            | succ p' =>
              rw [hb] at ih1
              exact ih1
    · have e : t = k := by omega
      subst e
      rw [if_pos rfl]
      unfold srS
      rw [if_neg c1]
      cases pos with
      | zero =>
        show okp (if (0 : Int32) ≤ nI 0 + (-1) then _ else _) _
        rw [if_neg (by decide), p_fail]
        exact okp_some ⟨fun q => absurd (show (2 : Nat) = 0 from q) (by decide), fun q => absurd (show (2 : Nat) = 1 from q) (by decide), fun _ => ⟨mi_eq _ _ _ _, mfr_mi (mfr_w g (fun _ _ => PW_R)) (by unfold PR; omega)⟩⟩
      | succ p =>
        have e1 : nI (p + 1) + (-1) = nI p := pk_m1 p
        rw [e1, if_pos (nI_pos' (by omega)), g_ib (by omega) (by omega), nI_clamp (by omega), b1 p (by omega), nl_1, nI_add]
        have wp := b2 p (by omega)
        have ih1 := ih r c p (w p + 1) w M (by omega) a2 (by omega) (by omega) g (fun i hi => b1 i (by omega)) (fun i hi => b2 i (by omega)) (fun q hq => b3 q (by unfold cdn at *; omega))
        have eb : bk t w (p + 1) = if w p + 1 < t then p + 1 else bk t w p := rfl
        rw [eb]
        unfold srS at ih1
        by_cases d : w p + 1 < t
        · rw [if_pos d]
          rw [if_pos d] at ih1
          exact ih1
        · rw [if_neg d]
          rw [if_neg d] at ih1
          exact ih1
theorem mm_search {lim : Nat} {M : sm_M} {κ n k l : Nat} {s : Nat → Nat} {hc : Nat} {hl : Nat → Nat} {hs : Nat → Nat → Nat} {b : Bf} {v : Sv} (hO : Ok κ n k l s hc hl hs b v) (h0 : MA M κ n k l s hc hl hs b v) (hlim : lim ≤ 30000) : okp (f_X12_search_29 70000 70000 (nI lim) (nI 0) (nI 0) (nI 0) M) (spo (els κ n k).length l s hc hl hs M (sr κ n k (els κ n k).length lim 0 0 (fun _ => 0))) := by
  have ok := okF_of hO.1
  have h1 := p_msr (F := 70000) hO h0 (by omega) hlim 70000 lim 0 0 0 (fun _ => 0) M (by omega) (by omega) (els_pos hO.1) (by omega) mfr_refl (fun i hi => by omega) (fun i hi => by omega) (fun q hq => by unfold cdn at hq; omega)
  unfold srS at h1
  rw [if_pos (show 0 < k by omega)] at h1
  have e : up1 (fun _ => 0) 0 0 = fun _ => 0 := by
    funext i
    unfold up1
    split <;> rfl
  rw [e] at h1
  exact h1
theorem q_31 : lq_31 IV := by
  rintro M x1 ⟨κ, n, k, l, s, hc, hl, hs, b, v, hO, hC, hM⟩
  have h200 := (els_ok hO.1).2.1
  have e1 : (1 : Int32) = nI 0 + nI 1 := rfl
  by_cases hx : x1 < 1 ∨ 30000 < x1
  · refine Or.inr (Or.inl (lp_x_r 0 0 hO hC hM ?_ (fun M h => ?_)))
    · show okp (f_X11_search 0 x1 M) _
      unfold f_X11_search f_X11_search_12
      rcases hx with hx | hx
      · rw [if_pos hx]
        exact okp_some ⟨rfl, cfr_refl⟩
      · rw [if_neg (c := x1 ≤ 30000) (fun q => absurd hx (fun r => (fa_of_lt r).2.1 q)), ite_self]
        exact okp_some ⟨rfl, cfr_refl⟩
    · show okp (f_X12_search 0 x1 M) _
      unfold f_X12_search
      obtain ⟨M0, e00, h0, hz, g0⟩ := mz0 h; rw [e00]
      have e2 : (if x1 < (1 : Int32) then nI 0 else if (30000 : Int32) < x1 then nI 0 else nI 1) = nI 0 := by
        rcases hx with hx | hx
        · rw [if_pos hx]
        · rw [if_pos hx, ite_self]
      rw [p_isIn, e2, Option.bind_some, if_pos (by decide), p_fail]
      exact okp_some (mm_x g0)
  · have h1 : ¬ x1 < 1 := fun q => hx (Or.inl q)
    have h2 : ¬ 30000 < x1 := fun q => hx (Or.inr q)
    have h3 : ¬ x1 < 0 := fun q => h1 (by rw [fa_lt] at *; have : (0 : Int32).toInt = 0 := rfl; have : (1 : Int32).toInt = 1 := rfl; omega)
    obtain ⟨lim, hl31, rfl⟩ := nI_of h3
    have hlim : lim ≤ 30000 := by
      rw [nl_30000, nI_ltI (by omega) (by omega)] at h2
      omega
    have key : ∀ M, MA M κ n k l s hc hl hs b v → ∃ M0, MA M0 κ n k l s hc hl hs b v ∧ M0.1 80 0 = 0 ∧ mfr PR M M0 ∧ f_X12_search 70000 (nI lim) M = f_X12_search_29 70000 70000 (nI lim) (nI 0) (nI 0) (nI 0) M0 := by
      intro M h
      obtain ⟨M0, e00, h0, hz, g0⟩ := mz0 h
      refine ⟨M0, h0, hz, g0, ?_⟩
      unfold f_X12_search
      rw [e00, p_isIn, if_neg h1, if_neg h2, Option.bind_some, if_neg (by decide)]
      rfl
    have cls := cc_search (F := 70000) (lim := lim) hO.1 hC.1.1 (by omega) hlim (by omega)
    have bd := sr_bd (κ := κ) (n := n) (k := k) (E := (els κ n k).length) lim 0 0 (fun _ => 0)
    have cx : f_X11_search 70000 (nI lim) M = (f_X8_run 70000 (nI lim) M).bind fun q3 => if q3.1 = (-1 : Int32) then (some (.inr "java/lang/IllegalStateException", q3.2)) else (if q3.1 = (-2 : Int32) then (some (.inr "java/util/NoSuchElementException", q3.2)) else ((f_X6_remember 70000 24 q3.2).bind fun q6 => (f_X7_copyFrom 70000 24 58 q6.2).bind fun q7 => some (.inl (some (.int q3.1)), q7))) := by
      unfold f_X11_search f_X11_search_12
      rw [if_neg h1, if_pos (by rw [nl_30000]; exact nI_le hlim (by omega))]
    generalize hsr : sr κ n k (els κ n k).length lim 0 0 (fun _ => 0) = T at *
    rcases Nat.lt_or_ge T.1 1 with hT | hT
    · have hT : T.1 = 0 := by omega
      obtain ⟨r, er, gr, sr1, -, -⟩ := cls
      obtain ⟨s1, s2, s3⟩ := sr1 hT
      refine Or.inl (lp_r_q (l' := (els κ n k).length) (s' := T.2.2) 70000 70000 (nI T.2.1) hO hC hM (okQ_rec hO.2.1 (by omega) s3) ?_ (fun M h => ?_))
      · show okp (f_X11_search 70000 (nI lim) M) _
        rw [cx, er, Option.bind_some, nl_m1, s1, if_neg (fun q => (mN_eq (by omega)).mp q), if_neg]
        · have cq := CQ_r hC.2.1 (cfr_z gr (by omega))
          refine okp_bind (cc_rem hO.2.1 cq) ?_
          rintro ⟨a, M1⟩ ⟨q1, -, -, -, g1⟩
          refine okp_bind (p_copy (by omega) (rowp_f s2 g1 (by omega)) (by omega)) ?_
          rintro M2 ⟨q2, g2⟩
          exact okp_some ⟨rfl, ⟨q2, CH_f q1.2 g2 (by omega)⟩, cfq_tr (cfq_z gr (by omega)) (cfq_tr (cfq_z g1 (by omega)) (cfq_z g2 (by omega)))⟩
        · rw [fa_eq, nI_toInt (by omega)]
          have : (-2 : Int32).toInt = -2 := rfl
          omega
      · show okp (f_X12_search 70000 (nI lim) M) _
        obtain ⟨M0, h0, hz, g0, e⟩ := key M h
        rw [e]
        have := mm_search hO h0 hlim
        rw [hsr] at this
        exact okp_mono this (fun r q => mm_z g0 hz (q.1 hT))
    · rcases Nat.lt_or_ge T.1 2 with hT2 | hT2
      · have hT : T.1 = 1 := by omega
        obtain ⟨r, er, gr, -, sr1, -⟩ := cls
        refine Or.inr (Or.inr (Or.inl (lp_x_r 70000 70000 hO hC hM ?_ (fun M h => ?_))))
        · show okp (f_X11_search 70000 (nI lim) M) _
          rw [cx, er, Option.bind_some, nl_m1, sr1 hT, if_pos rfl]
          exact okp_some ⟨rfl, cfr_z gr (by omega)⟩
        · show okp (f_X12_search 70000 (nI lim) M) _
          obtain ⟨M0, h0, hz, g0, e⟩ := key M h
          rw [e]
          have := mm_search hO h0 hlim
          rw [hsr] at this
          exact okp_mono this (fun r q => ⟨(q.2.1 hT).1, mfr_tr g0 (q.2.1 hT).2⟩)
      · have hT : T.1 = 2 := by omega
        obtain ⟨r, er, gr, -, -, sr1⟩ := cls
        refine Or.inr (Or.inr (Or.inr (lp_x_r 70000 70000 hO hC hM ?_ (fun M h => ?_))))
        · show okp (f_X11_search 70000 (nI lim) M) _
          rw [cx, er, Option.bind_some, sr1 hT, if_neg (by decide), if_pos rfl]
          exact okp_some ⟨rfl, cfr_z gr (by omega)⟩
        · show okp (f_X12_search 70000 (nI lim) M) _
          obtain ⟨M0, h0, hz, g0, e⟩ := key M h
          rw [e]
          have := mm_search hO h0 hlim
          rw [hsr] at this
          exact okp_mono this (fun r q => ⟨(q.2.2 hT).1, mfr_tr g0 (q.2.2 hT).2⟩)
