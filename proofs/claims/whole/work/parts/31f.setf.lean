/-! ===== setFamily, restore ===== -/
def oor (x1 x2 x3 : Int32) : Prop := x1 < 0 ∨ nI 4 ≤ x1 ∨ x2 < 0 ∨ nI 6 ≤ x2 ∨ x3 < 0 ∨ nI 9 ≤ x3
theorem oor_no {x1 x2 x3 : Int32} (h : oor x1 x2 x3) (a1 : ¬ x1 < 0) (a2 : ¬ (3 : Int32) < x1) (a3 : ¬ x2 < (1 : Int32)) (a4 : x2 ≤ (5 : Int32)) (a5 : ¬ x3 < (1 : Int32)) (a6 : ¬ (8 : Int32) < x3) : False := by
  have t0 : (0 : Int32).toInt = 0 := rfl
  have t1 : (1 : Int32).toInt = 1 := rfl
  have t3 : (3 : Int32).toInt = 3 := rfl
  have t5 : (5 : Int32).toInt = 5 := rfl
  have t8 : (8 : Int32).toInt = 8 := rfl
  unfold oor at h
  simp only [fa_lt, fa_le, t0, t1, t3, t5, t8, nI_toInt (show 4 < 2 ^ 31 by omega), nI_toInt (show 6 < 2 ^ 31 by omega), nI_toInt (show 9 < 2 ^ 31 by omega)] at *
  omega
theorem p_poss_out {F : Nat} {x1 x2 x3 : Int32} {M : sm_M} (h : oor x1 x2 x3) : f_X2_isPossible F x1 x2 x3 M = some (nI 0) := by
  unfold f_X2_isPossible f_X2_isPossible_19 f_X2_isPossible_41
  by_cases c1 : x1 < 0
  · rw [if_pos c1]
    rfl
  · rw [if_neg c1]
    by_cases c2 : (3 : Int32) < x1
    · rw [if_pos c2]
      rfl
    · rw [if_neg c2]
      by_cases c3 : x2 < (1 : Int32)
      · rw [if_pos c3]
        rfl
      · rw [if_neg c3]
        by_cases c4 : x2 ≤ (5 : Int32)
        · rw [if_pos c4]
          by_cases c5 : x3 < (1 : Int32)
          · rw [if_pos c5]
            rfl
          · rw [if_neg c5]
            by_cases c6 : (8 : Int32) < x3
            · rw [if_pos c6]
              rfl
            · exact absurd h (fun q => oor_no q c1 c2 c3 c4 c5 c6)
        · rw [if_neg c4]
          rfl
theorem p_in1 {F : Nat} {x lo hi : Int32} {M : sm_M} (h1 : ¬ x < lo) (h2 : ¬ hi < x) : f_X12_isIn F x lo hi M = some (nI 1) := by rw [p_isIn, if_neg h1, if_neg h2]
theorem p_in0 {F : Nat} {x lo hi : Int32} {M : sm_M} (h : x < lo ∨ hi < x) : f_X12_isIn F x lo hi M = some (nI 0) := by
  rw [p_isIn]
  rcases h with h | h
  · rw [if_pos h]
  · rw [if_pos h, ite_self]
theorem p_mset_out {F : Nat} {x1 x2 x3 : Int32} {M M0 : sm_M} (e00 : sm_mi M 80 0 (0 : Int32) = M0) (h : oor x1 x2 x3) : f_X12_setFamily F x1 x2 x3 M = some (nI 0, sm_mi M0 80 0 1) := by
  unfold f_X12_setFamily f_X12_setFamily_46 f_X12_setFamily_47 f_X12_setFamily_66
  rw [e00]
  by_cases c1 : x1 < 0 ∨ (3 : Int32) < x1
  · rw [p_in0 c1, Option.bind_some, if_pos (by decide), if_pos (by decide)]
    rfl
  · rw [p_in1 (fun q => c1 (Or.inl q)) (fun q => c1 (Or.inr q)), Option.bind_some, if_neg (by decide)]
    by_cases c2 : x2 < (1 : Int32) ∨ (5 : Int32) < x2
    · rw [p_in0 c2, Option.bind_some, if_pos (by decide), if_pos (by decide)]
      rfl
    · rw [p_in1 (fun q => c2 (Or.inl q)) (fun q => c2 (Or.inr q)), Option.bind_some, if_neg (by decide)]
      by_cases c3 : x3 < (1 : Int32) ∨ (8 : Int32) < x3
      · rw [p_in0 c3, Option.bind_some, if_pos (by decide), if_pos (by decide)]
        rfl
      · refine absurd h (fun q => oor_no q (fun r => c1 (Or.inl r)) (fun r => c1 (Or.inr r)) (fun r => c2 (Or.inl r)) ?_ (fun r => c3 (Or.inl r)) (fun r => c3 (Or.inr r)))
        exact fa_of_nlt (fun r => c2 (Or.inr r))
theorem p_mset {κ n k : Nat} {M M0 : sm_M} (e00 : sm_mi M 80 0 (0 : Int32) = M0) (h1 : κ < 4) (h2 : n < 6) (h3 : k < 9) : f_X12_setFamily 40000 (nI κ) (nI n) (nI k) M = if okF κ n k = true then ((f_X12_fill 40000 (sm_mi (sm_mi (sm_mi M0 80 1 (nI κ)) 80 2 (nI n)) 80 3 (nI k))).bind fun q4 => some ((((sm_mi (sm_mi q4 80 12 (0 : Int32)) 80 15 (0 : Int32))).1 80 5), (sm_mi (sm_mi q4 80 12 (0 : Int32)) 80 15 (0 : Int32)))) else some (nI 0, sm_mi M0 80 0 1) := by
  have b31 : (3 : Int32) = nI 3 := rfl
  have i1' : f_X12_isIn 40000 (nI κ) (0 : Int32) (3 : Int32) M0 = some (nI 1) := p_in1 (nI_pos (by omega)) (by rw [nl_3]; exact nI_nlt (by omega) (by omega))
  unfold f_X12_setFamily f_X12_setFamily_46 f_X12_setFamily_42 f_X12_setFamily_47 f_X12_setFamily_66
  rw [e00, i1', Option.bind_some, if_neg (by decide)]
  have no : (n = 0 ∨ k = 0 ∨ (κ ≠ 0 ∧ k < n)) → ¬ okF κ n k = true := fun q r => by
    have := okF_of r
    omega
  by_cases c1 : n = 0
  · rw [if_neg (no (Or.inl c1)), p_in0 (Or.inl (by rw [c1]; decide)), Option.bind_some, if_pos (by decide), if_pos (by decide)]
    rfl
  · rw [p_in1 (x := nI n) (by rw [nl_1]; exact nI_nlt (by omega) (by omega)) (by rw [nl_5]; exact nI_nlt (by omega) (by omega)), Option.bind_some, if_neg (by decide)]
    by_cases c2 : k = 0
    · rw [if_neg (no (Or.inr (Or.inl c2))), p_in0 (Or.inl (by rw [c2]; decide)), Option.bind_some, if_pos (by decide), if_pos (by decide)]
      rfl
    · rw [p_in1 (x := nI k) (by rw [nl_1]; exact nI_nlt (by omega) (by omega)) (by rw [nl_8]; exact nI_nlt (by omega) (by omega)), Option.bind_some, if_neg (by decide)]
      have fin : (κ = 0 ∨ n ≤ k) → (if (1 : Int32) = 0 then ((f_X12_fail 40000 (1 : Int32) M0).bind fun q1 => some (q1.1, q1.2)) else ((f_X12_countOf 40000 (nI κ) (nI n) (nI k) M0).bind fun q2 => if q2 ≤ (200 : Int32) then ((f_X12_fill 40000 (sm_mi (sm_mi (sm_mi M0 80 1 (nI κ)) 80 2 (nI n)) 80 3 (nI k))).bind fun q4 => some ((((sm_mi (sm_mi q4 80 12 (0 : Int32)) 80 15 (0 : Int32))).1 80 5), (sm_mi (sm_mi q4 80 12 (0 : Int32)) 80 15 (0 : Int32)))) else ((f_X12_fail 40000 (1 : Int32) M0).bind fun q1 => some (q1.1, q1.2)))) = if okF κ n k = true then ((f_X12_fill 40000 (sm_mi (sm_mi (sm_mi M0 80 1 (nI κ)) 80 2 (nI n)) 80 3 (nI k))).bind fun q4 => some ((((sm_mi (sm_mi q4 80 12 (0 : Int32)) 80 15 (0 : Int32))).1 80 5), (sm_mi (sm_mi q4 80 12 (0 : Int32)) 80 15 (0 : Int32)))) else some (nI 0, sm_mi M0 80 0 1) := fun hk => by
        obtain ⟨q, hq, hq2⟩ := p_cnt (M := M0) h1 h2 h3 (by omega) (by omega) hk
        rw [if_neg (show ¬ (1 : Int32) = 0 by decide), hq, Option.bind_some]
        by_cases d : okF κ n k = true
        · rw [if_pos (hq2.mpr d), if_pos d]
        · rw [if_neg (fun r => d (hq2.mp r)), if_neg d]
          rfl
      by_cases c3 : κ = 0
      · rw [if_pos (show nI κ = 0 by rw [c3]; rfl)]
        exact fin (Or.inl c3)
      · rw [if_neg (nI_ne0 (by omega) (by omega))]
        by_cases c4 : k < n
        · rw [if_pos (nI_lt c4 (by omega)), if_neg (no (Or.inr (Or.inr ⟨c3, c4⟩))), if_pos (by decide)]
          rfl
        · rw [if_neg (nI_nlt (by omega) (by omega))]
          exact fin (Or.inr (by omega))
/-- the reference fills anew -/
theorem mm_fill {M : sm_M} {κ n k l : Nat} {s : Nat → Nat} {hc : Nat} {hl : Nat → Nat} {hs : Nat → Nat → Nat} {b : Bf} {v : Sv} {κ' n' k' : Nat} (ho : okF κ' n' k' = true) (h : MA M κ n k l s hc hl hs b v) : okp (f_X12_fill 40000 (sm_mi (sm_mi (sm_mi M 80 1 (nI κ')) 80 2 (nI n')) 80 3 (nI k'))) (fun M' => MF M' κ' n' k' ∧ MB M' b ∧ MV M' v ∧ M'.1 80 0 = M.1 80 0 ∧ (∀ j, 12 ≤ j → M'.1 80 j = M.1 80 j) ∧ (∀ a, 86 ≤ a → M'.1 a = M.1 a) ∧ mfr PA M M') := by
  refine okp_mono (p_mfill ho (by omega) (by rw [mi_ni (by omega), mi_ni (by omega), mi_eq]) (by rw [mi_ni (by omega), mi_eq]) (mi_eq _ _ _ _)) ?_
  rintro M' ⟨q1, g⟩
  have e1 : ∀ j, 12 ≤ j → M'.1 80 j = M.1 80 j := fun j hj => by rw [g.1 80 j (by unfold PF; omega), mi_ni (by omega), mi_ni (by omega), mi_ni (by omega)]
  have e2 : ∀ a, 86 ≤ a → M'.1 a = M.1 a := fun a ha => by rw [mfr_row g (fun j => by unfold PF; omega), mi_na (by omega), mi_na (by omega), mi_na (by omega)]
  refine ⟨q1, MB_c h.2.2.1 (e1 _ (by omega)) (e1 _ (by omega)) (e2 _ (by omega)) (e2 _ (by omega)), MV_c h.2.2.2 (fun j _ _ => e1 j (by omega)) (e2 _ (by omega)), ?_, e1, e2, ?_⟩
  · rw [g.1 80 0 (by unfold PF; omega), mi_ni (by omega), mi_ni (by omega), mi_ni (by omega)]
  · exact mfr_tr (mfr_mi (mfr_mi (mfr_mi mfr_refl (by unfold PA; omega)) (by unfold PA; omega)) (by unfold PA; omega)) (mfr_w g (fun a j q => by unfold PF at q; unfold PA; omega))
theorem CA_new {M : sm_M} {κ n k l : Nat} {s : Nat → Nat} {hc : Nat} {hl : Nat → Nat} {hs : Nat → Nat → Nat} {b : Bf} {v : Sv} {M' : sm_M} {κ' n' k' : Nat} (hC : CA M κ n k l s hc hl hs b v) (h1 : CF M' κ' n' k') (h2 : M'.1 24 1 = nI 0) (h3 : M'.1 26 2 = nI 0) (h4 : M'.1 26 1 = M.1 26 1) (h5 : ∀ a, (a < 1 ∨ 27 ≤ a) → M'.1 a = M.1 a) : CA M' κ' n' k' 0 s 0 hl hs b v := by
  obtain ⟨nw, c1, c2, -⟩ := hC.2.1.2
  refine ⟨h1, ⟨⟨h2, fun i hi => by omega⟩, nw, c1, by rw [h4]; exact c2, h3, by omega, fun j hj => by omega⟩, CB_c hC.2.2.1 ?_ ?_ ?_ ?_, CV_c hC.2.2.2 (fun j _ _ => ?_) ?_ ?_⟩ <;> rw [h5 _ (by omega)]
theorem q_0 : lq_0 IV := by
  rintro M x1 x2 x3 ⟨κ, n, k, l, s, hc, hl, hs, b, v, hO, hC, hM⟩
  have key : oor x1 x2 x3 → lp_x "java/lang/IllegalArgumentException" 1 (fun F M => f_X11_setFamily F x1 x2 x3 M) (fun F M => f_X12_setFamily F x1 x2 x3 M) IV M := fun ho => by
    refine lp_x_r 0 0 hO hC hM ?_ (fun M h => ?_)
    · show okp (f_X11_setFamily 0 x1 x2 x3 M) _
      unfold f_X11_setFamily
      rw [p_poss_out ho, Option.bind_some, if_pos (by decide)]
      exact okp_some ⟨rfl, cfr_refl⟩
    · show okp (f_X12_setFamily 0 x1 x2 x3 M) _
      obtain ⟨M0, e00, h0, hz, g0⟩ := mz0 h
      rw [p_mset_out e00 ho]
      exact okp_some (mm_x g0)
  rcases pk_ix x1 (n := 4) (by omega) with hx | hx | ⟨κ', hκ, rfl⟩
  · exact Or.inr (key (Or.inl hx))
  · exact Or.inr (key (Or.inr (Or.inl hx)))
  rcases pk_ix x2 (n := 6) (by omega) with hx | hx | ⟨n', hn, rfl⟩
  · exact Or.inr (key (Or.inr (Or.inr (Or.inl hx))))
  · exact Or.inr (key (Or.inr (Or.inr (Or.inr (Or.inl hx)))))
  rcases pk_ix x3 (n := 9) (by omega) with hx | hx | ⟨k', hk, rfl⟩
  · exact Or.inr (key (Or.inr (Or.inr (Or.inr (Or.inr (Or.inl hx))))))
  · exact Or.inr (key (Or.inr (Or.inr (Or.inr (Or.inr (Or.inr hx))))))
  by_cases ho : okF κ' n' k' = true
  · refine Or.inl (lp_r_g (κ' := κ') (n' := n') (k' := k') (l' := 0) (s' := s) (hc' := 0) (hl' := hl) (hs' := hs) (b' := b) (v' := v) 600 40000 (nI (els κ' n' k').length) hM ⟨ho, ⟨Nat.zero_le _, fun i hi => by omega, Nat.zero_le _, fun j hj => by omega⟩, hO.2.2.1, hO.2.2.2⟩ ?_ (fun M h => ?_))
    · show okp (f_X11_setFamily 600 (nI κ') (nI n') (nI k') M) _
      unfold f_X11_setFamily
      rw [p_poss hκ hn hk, if_pos ho, Option.bind_some, if_neg (by decide)]
      refine okp_bind (cc_begin ho (by omega)) ?_
      rintro M1 ⟨q1, q2, q3, q4, q5⟩
      rw [q1.1.2.2.2.1]
      exact okp_some ⟨rfl, CA_new hC q1 q2 q3 q4 q5, fun a ha => q5 a (by omega)⟩
    · show okp (f_X12_setFamily 40000 (nI κ') (nI n') (nI k') M) _
      obtain ⟨M0, e00, h0, hz, g0⟩ := mz0 h
      rw [p_mset e00 hκ hn hk, if_pos ho]
      refine okp_bind (mm_fill ho h0) ?_
      rintro M1 ⟨q1, q2, q3, q4, q5, q6, q7⟩
      refine okp_some ⟨?_, ?_, ⟨MF_c q1 (fun j _ _ => ?_) (fun x _ _ => ?_), ⟨?_, fun i hi => by omega, mi_eq _ _ _ _, fun j hj => by omega⟩, MB_c q2 ?_ ?_ ?_ ?_, MV_c q3 (fun j _ _ => ?_) ?_⟩, mfr_mi (mfr_mi (mfr_tr (mfr_w g0 (fun _ _ h => PQ_A (PR_Q h))) q7) (by unfold PA; omega)) (by unfold PA; omega)⟩
      · show (sm_mi (sm_mi M1 80 12 0) 80 15 0).1 80 5 = _
        rw [mi_ni (by omega), mi_ni (by omega)]
        exact q1.2.2.2.1
      · rw [mi_ni (by omega), mi_ni (by omega), q4]
        exact hz
      · rw [mi_ni (by omega), mi_ni (by omega)]
      · rw [mi_na (by omega), mi_na (by omega)]
      · rw [mi_ni (by omega), mi_eq]
        rfl
      · rw [mi_ni (by omega), mi_ni (by omega)]
      · rw [mi_ni (by omega), mi_ni (by omega)]
      · rw [mi_na (by omega), mi_na (by omega)]
      · rw [mi_na (by omega), mi_na (by omega)]
      · rw [mi_ni (by omega), mi_ni (by omega)]
      · rw [mi_na (by omega), mi_na (by omega)]
  · refine Or.inr (lp_x_r 600 40000 hO hC hM ?_ (fun M h => ?_))
    · show okp (f_X11_setFamily 600 (nI κ') (nI n') (nI k') M) _
      unfold f_X11_setFamily
      rw [p_poss hκ hn hk, if_neg ho, Option.bind_some, if_pos (by decide)]
      exact okp_some ⟨rfl, cfr_refl⟩
    · show okp (f_X12_setFamily 40000 (nI κ') (nI n') (nI k') M) _
      obtain ⟨M0, e00, h0, hz, g0⟩ := mz0 h
      rw [p_mset e00 hκ hn hk, if_neg ho]
      exact okp_some (mm_x g0)
theorem p_mrs {l : Nat} {s : Nat → Nat} {M0 : sm_M} (h3 : M0.1 80 12 = nI l) (h4 : ∀ i, i < l → M0.1 101 i = nI (s i)) (hl : l ≤ 240) : ∀ (m i : Nat) (M : sm_M), l < m + i → i ≤ l → fz 86 87 M0 M → (∀ j, j < i → M.1 86 j = nI (s j)) → okp (f_X12_restore_56 40000 m (nI i) M) (fun r => r.1 = nI l ∧ r.2.1 80 15 = nI 0 ∧ (∀ j, j < l → r.2.1 86 j = nI (s j)) ∧ (∀ a j, a ≠ 86 → (a = 80 → j ≠ 15) → r.2.1 a j = M0.1 a j) ∧ r.2.2 102 = M0.2 102) := by
  intro m
  induction m with
  | zero => intro i M h1 h2; omega
  | succ m ih =>
    intro i M h1 h2 g a1
    show okp (f_X12_restore_56b 40000 (f_X12_restore_56 40000 m) _ _) _
    unfold f_X12_restore_56b
    rw [fz_1 g (a := 80) (by omega), fz_1 g (a := 101) (by omega), h3]
    by_cases h : l ≤ i
    · rw [if_pos (nI_le h (by omega)), mi_ni (by omega), fz_1 g (a := 80) (by omega), h3]
      refine okp_some ⟨rfl, mi_eq _ _ _ _, fun j hj => ?_, fun a j e1 e2 => ?_, fz_2 g (by omega)⟩
      · rw [mi_na (by omega)]
        exact a1 j (by omega)
      · rw [mi_1, if_neg (fun e => e2 e.1 e.2), fz_1 g (by omega)]
    · rw [if_neg (nI_ge (by omega) (by omega)), g_ib (by omega) (by omega), g_ib (by omega) (by omega), nI_clamp (by omega), h4 i (by omega), i1]
      refine ih (i + 1) _ (by omega) (by omega) (fz_then g (by omega) (by omega)) (fun j hj => ?_)
      by_cases e : j = i
      · subst e
        rw [mi_eq]
      · rw [mi_ni e]
        exact a1 j (by omega)
theorem q_41 : lq_41 IV := by
  rintro M ⟨κ, n, k, l, s, hc, hl, hs, b, v, hO, hC, hM⟩
  obtain ⟨sv, κ', n', k', l', s'⟩ := v
  rcases hO.2.2.2 with h | ⟨h, ho, hl', hs'⟩
  · have h : sv = 0 := h
    subst h
    refine Or.inr (lp_x_r 0 0 hO hC hM ?_ (fun M h => ?_))
    · show okp (f_X11_restore 0 M) _
      unfold f_X11_restore
      have e : M.1 0 17 = nI 0 := hC.2.2.2.1
      rw [e, if_pos (by decide)]
      exact okp_some ⟨rfl, cfr_refl⟩
    · show okp (f_X12_restore 0 M) _
      unfold f_X12_restore
      obtain ⟨M0, e00, h0, hz, g0⟩ := mz0 h; rw [e00]
      have e : M0.1 80 30 = nI 0 := h0.2.2.2.1
      rw [e, if_pos (by decide), p_fail]
      exact okp_some (mm_x g0)
  · have h : sv = 1 := h
    subst h
    have ho : okF κ' n' k' = true := ho
    have hl' : l' ≤ 240 := hl'
    have hs' : ∀ i, i < l' → s' i < k' := hs'
    refine Or.inl (lp_r_g (κ' := κ') (n' := n') (k' := k') (l' := l') (s' := s') (hc' := 0) (hl' := hl) (hs' := hs) (b' := b) (v' := (1, κ', n', k', l', s')) 600 40000 (nI l') hM ⟨ho, ⟨hl', hs', Nat.zero_le _, fun j hj => by omega⟩, hO.2.2.1, hO.2.2.2⟩ ?_ (fun M h => ?_))
    · show okp (f_X11_restore 600 M) _
      unfold f_X11_restore
      have e : M.1 0 17 = nI 1 := hC.2.2.2.1
      obtain ⟨v1, v2, v3, v4⟩ := hC.2.2.2.2 rfl
      have v1 : M.1 0 14 = nI κ' := v1
      have v2 : M.1 0 15 = nI n' := v2
      have v3 : M.1 0 16 = nI k' := v3
      rw [e, if_neg (by decide), v1, v2, v3]
      refine okp_bind (cc_begin ho (by omega)) ?_
      rintro M1 ⟨q1, q2, q3, q4, q5⟩
      have cn := CA_new hC q1 q2 q3 q4 q5
      have r78 : rowp M1 78 l' s' := rowp_c v4 (q5 _ (by omega)) (q5 _ (by omega))
      refine okp_bind (p_copy (by omega) r78 hl') ?_
      rintro M2 ⟨r1, g2⟩
      rw [r1.1]
      exact okp_some ⟨rfl, CA_q cn (cfq_z g2 (by omega)) ⟨r1, CH_f cn.2.1.2 g2 (by omega)⟩, fun a ha => by rw [fz_1 g2 (by omega)]; exact q5 a (by omega)⟩
    · show okp (f_X12_restore 40000 M) _
      unfold f_X12_restore
      obtain ⟨M0, e00, h0, hz, g0⟩ := mz0 h; rw [e00]
      have e : M0.1 80 30 = nI 1 := h0.2.2.2.1
      obtain ⟨v1, v2, v3, v4, v5⟩ := h0.2.2.2.2 rfl
      have v1 : M0.1 80 31 = nI κ' := v1
      have v2 : M0.1 80 32 = nI n' := v2
      have v3 : M0.1 80 33 = nI k' := v3
      have v4 : M0.1 80 34 = nI l' := v4
      have v5 : ∀ i, i < l' → M0.1 101 i = nI (s' i) := v5
      rw [e, if_neg (by decide), v1, mi_ni (by omega), v2, mi_ni (by omega), mi_ni (by omega), v3]
      refine okp_bind (mm_fill ho h0) ?_
      rintro M1 ⟨q1, q2, q3, q4, q5, q6, q7⟩
      rw [q5 34 (by omega), v4]
      refine okp_mono (p_mrs (M0 := sm_mi M1 80 12 (nI l')) (l := l') (s := s') (mi_eq _ _ _ _) (fun i hi => by rw [mi_na (by omega), q6 101 (by omega)]; exact v5 i hi) hl' 40000 0 _ (by omega) (by omega) fz_refl (fun j hj => by omega)) ?_
      rintro r ⟨r1, r2, r3, r4, r5⟩
      have f80 : ∀ j, j ≠ 12 → j ≠ 15 → r.2.1 80 j = M1.1 80 j := fun j h1 h2 => by rw [r4 80 j (by omega) (fun _ => h2), mi_ni h1]
      have fr : ∀ a, a ≠ 80 → a ≠ 86 → r.2.1 a = M1.1 a := fun a h1 h2 => funext fun j => by rw [r4 a j h2 (fun q => absurd q h1), mi_na h1]
      refine ⟨r1, ?_, ⟨MF_c q1 (fun j _ _ => f80 j (by omega) (by omega)) (fun x _ _ => fr x (by omega) (by omega)), ⟨?_, r3, r2, fun j hj => by omega⟩, MB_c q2 (f80 _ (by omega) (by omega)) (f80 _ (by omega) (by omega)) (fr _ (by omega) (by omega)) (fr _ (by omega) (by omega)), MV_c q3 (fun j _ _ => f80 j (by omega) (by omega)) (fr _ (by omega) (by omega))⟩, ?_⟩
      · rw [f80 0 (by omega) (by omega), q4]
        exact hz
      · rw [r4 80 12 (by omega) (by omega), mi_eq]
      · refine mfr_tr (mfr_tr (mfr_w g0 (fun _ _ h => PQ_A (PR_Q h))) q7) ⟨fun a j q => ?_, r5⟩
        have : ¬ (80 ≤ a ∧ a ≤ 101) := q
        rw [fr a (by omega) (by omega)]
