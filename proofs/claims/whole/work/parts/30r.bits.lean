/-! ===== shownBits, longestRun, longestRunStart ===== -/
theorem lsh : ∀ i, i < 50 → (1 : Int64) <<< ((nI i).toInt64 &&& 63) = lN (2 ^ i) := fun i hi => co_dec (P := fun i => (1 : Int64) <<< ((nI i).toInt64 &&& 63) = lN (2 ^ i)) (N := 50) (by decide +kernel) hi
def bor (f : Nat → Bool) : Nat → Nat
  | 0 => 0
  | i + 1 => bor f i ||| (if f i = true then 2 ^ i else 0)
theorem bor_bit {f : Nat → Bool} {i : Nat} : ∀ n, (bor f n).testBit i = (decide (i < n) && f i)
  | 0 => by simp [bor]
  | n + 1 => by
    rw [bor, Nat.testBit_or, bor_bit n]
    by_cases h : f n = true
    · rw [if_pos h, Nat.testBit_two_pow]
      by_cases e : n = i
      · subst e
        simp [h]
      · by_cases q : i < n
        · have : i < n + 1 := by omega
          simp [e, q, this]
        · have : ¬ i < n + 1 := by omega
          simp [e, q, this]
    · rw [if_neg h, Nat.zero_testBit, Bool.or_false]
      by_cases e : i = n
      · subst e
        simp [h]
      · by_cases q : i < n
        · have : i < n + 1 := by omega
          simp [q, this]
        · have : ¬ i < n + 1 := by omega
          simp [q, this]
theorem bor_stop {f : Nat → Bool} {i : Nat} (h : ∀ j, i ≤ j → f j = false) : ∀ d, bor f (i + d) = bor f i
  | 0 => rfl
  | d + 1 => by
    rw [← Nat.add_assoc, bor, h (i + d) (by omega), bor_stop h d]
    simp
def obt (o : Option Nat) (p : Nat) : Nat := match o with
  | none => 0
  | some e => if 50 * p ≤ e ∧ e < 50 * p + 50 then 2 ^ (e - 50 * p) else 0
def mor (sh : Nat → Option Nat) (p : Nat) : Nat → Nat
  | 0 => 0
  | q + 1 => mor sh p q ||| obt (sh q) p
theorem obt_bit {o : Option Nat} {p i : Nat} : (obt o p).testBit i = true ↔ i < 50 ∧ o = some (50 * p + i) := by
  cases o with
  | none => simp [obt]
  | some e =>
    unfold obt
    by_cases h : 50 * p ≤ e ∧ e < 50 * p + 50
    · simp only [if_pos h, Nat.testBit_two_pow, decide_eq_true_eq, Option.some.injEq]
      omega
    · simp only [if_neg h, Nat.zero_testBit, Option.some.injEq]
      constructor
      · intro q; cases q
      · intro q; omega
theorem mor_bit {sh : Nat → Option Nat} {p i : Nat} : ∀ l, (mor sh p l).testBit i = true ↔ i < 50 ∧ ∃ q, q < l ∧ sh q = some (50 * p + i)
  | 0 => by simp [mor]
  | l + 1 => by
    rw [mor, Nat.testBit_or, Bool.or_eq_true, mor_bit l, obt_bit]
    constructor
    · rintro (⟨h1, q, h2, h3⟩ | ⟨h1, h2⟩)
      · exact ⟨h1, q, by omega, h3⟩
      · exact ⟨h1, l, by omega, h2⟩
    · rintro ⟨h1, q, h2, h3⟩
      by_cases e : q = l
      · subst e
        exact Or.inr ⟨h1, h3⟩
      · exact Or.inl ⟨h1, q, by omega, h3⟩
def bts (sh : Nat → Option Nat) (l E p i : Nat) : Bool := decide (50 * p + i < E) && decide (times sh l (50 * p + i) ≠ 0)
theorem bm_eq {sh : Nat → Option Nat} {l E p : Nat} (hb : ∀ q e, sh q = some e → e < E) : mor sh p l = bor (bts sh l E p) 50 := by
  apply Nat.eq_of_testBit_eq
  intro i
  rw [Bool.eq_iff_iff, mor_bit, bor_bit]
  unfold bts
  simp only [Bool.and_eq_true, decide_eq_true_eq]
  constructor
  · rintro ⟨h1, q, h2, h3⟩
    exact ⟨h1, hb q _ h3, fun h => times_0.mp h q h2 h3⟩
  · rintro ⟨h1, h2, h3⟩
    refine ⟨h1, fst1 sh l (50 * p + i), fst1_lt.mpr h3, ?_⟩
    have := fa_first_yes _ _ (fst1_lt.mpr h3)
    simp only [decide_eq_true_eq] at this
    exact this
theorem p_bits {M : sm_M} {sh : Nat → Option Nat} {l E p : Nat} (h : lkp M sh l E) (hE : E ≤ 200) (hl : l ≤ 240) (hp : p < 4) : f_X10_bitsFrom 300 (nI (50 * p)) M = some (lN (bor (bts sh l E p) 50)) := by
  have key : ∀ (m i : Nat), 50 < m + i → i ≤ 50 → f_X10_bitsFrom_5 300 m (nI (50 * p)) (lN (bor (bts sh l E p) i)) (nI i) M = some (lN (bor (bts sh l E p) 50)) := by
    intro m
    induction m with
    | zero => intro i a b; omega
    | succ m ih =>
      intro i a1 a2
      show f_X10_bitsFrom_5b 300 (f_X10_bitsFrom_5 300 m) _ _ _ _ = _
      unfold f_X10_bitsFrom_5b f_X10_bitsFrom_48 f_X10_bitsFrom_42
      rw [h.2.1, nl_50, nI_add]
      by_cases c : 50 ≤ i
      · have e : i = 50 := by omega
        subst e
        rw [if_pos (nI_le c (by omega))]
      · rw [if_neg (nI_ge (by omega) (by omega))]
        by_cases d : E ≤ 50 * p + i
        · rw [if_pos (nI_le d (by omega))]
          have := bor_stop (f := bts sh l E p) (i := i) (fun j hj => by unfold bts; simp; omega) (50 - i)
          rw [Nat.add_sub_cancel' (by omega)] at this
          rw [this]
        · have ht : times sh l (50 * p + i) ≤ 240 := Nat.le_trans (fb_ct_le _ _) hl
          have ih1 := ih (i + 1) (by omega) (by omega)
          rw [bor] at ih1
          rw [if_neg (nI_ge (by omega) (by omega)), g_ib (by omega) (by omega), nI_clamp (by omega), h.2.2.2.1 _ (by omega), i1, lsh i (by omega), fb_orL]
          by_cases t : times sh l (50 * p + i) = 0
          · rw [if_pos (by rw [t]; decide)]
            rw [if_neg (by unfold bts; simp [t]), Nat.or_zero] at ih1
            exact ih1
          · rw [if_neg (nI_nle (by omega) (by omega))]
            rw [if_pos (by unfold bts; simp [t]; omega)] at ih1
            exact ih1
  exact key 300 0 (by omega) (by omega)
theorem q_20 : lq_20 IV := by
  rintro M x1 ⟨κ, n, k, l, s, hc, hl, hs, b, v, hO, hC, hM⟩
  have hl2 := hO.2.1.1
  have hE := (els_ok hO.1).2.1
  have hb : ∀ q e, shp κ n k s l q = some e → e < (els κ n k).length := fun _ _ h => (shp_lt hO.1 h).1
  have e3 : (3 : Int32) = nI 4 - nI 1 := by decide
  have key : ∀ x1, (x1 < 0 ∨ nI 4 ≤ x1) → lp_x "java/lang/IllegalArgumentException" 1 (fun F M => f_X11_shownBits F x1 M) (fun F M => f_X12_shownBits F x1 M) IV M := by
    intro x1 hx
    refine lp_x_r 0 0 hO hC hM ?_ (fun M h => ?_)
    · show okp (f_X11_shownBits 0 x1 M) _
      unfold f_X11_shownBits f_X11_shownBits_9
      rw [nl_4]
      rcases hx with hx | hx
      · rw [if_pos hx]
        exact okp_some ⟨rfl, cfr_refl⟩
      · rw [if_neg (c := x1 < nI 4) (fun q => absurd hx (fa_of_lt q).2.1), ite_self]
        exact okp_some ⟨rfl, cfr_refl⟩
    · show okp (f_X12_shownBits 0 x1 M) _
      unfold f_X12_shownBits
      obtain ⟨M0, e00, h0, hz, g0⟩ := mz0 h; rw [e00]
      rw [e3, nl_0, p_ix_out hx (by omega), Option.bind_some, if_pos (by decide), p_fail]
      exact okp_some (mm_x g0)
  rcases pk_ix x1 (n := 4) (by omega) with hx | hx | ⟨p, hp, rfl⟩
  · exact Or.inr (key x1 (Or.inl hx))
  · exact Or.inr (key x1 (Or.inr hx))
  refine Or.inl (lp_rl_r 300 300 (lN (bor (bts (shp κ n k s l) l (els κ n k).length p) 50)) hO hC hM ?_ (fun M h => ?_))
  · show okp (f_X11_shownBits 300 (nI p) M) _
    unfold f_X11_shownBits
    rw [if_neg (nI_pos (by omega)), nl_4, if_pos (nI_lt hp (by omega))]
    refine okp_bind (cc_look hO hC) ?_
    rintro M1 ⟨q1, g1⟩
    rw [nl_50, pk_mul, p_bits q1 hE hl2 hp, Option.bind_some]
    exact okp_some ⟨rfl, cfr_z g1 (by omega)⟩
  · show okp (f_X12_shownBits 300 (nI p) M) _
    unfold f_X12_shownBits
    obtain ⟨M0, e00, h0, hz, g0⟩ := mz0 h; rw [e00]
    rw [e3, nl_0, p_ix_in hp (by omega), Option.bind_some, if_neg (by decide)]
    have key2 : ∀ (m q : Nat) (M : sm_M), l < m + q → q ≤ l → mfr PW M0 M → okp (f_X12_shownBits_26 300 m (nI p) (lN (mor (shp κ n k s l) p q)) (nI q) M) (fun r => r.1 = lN (mor (shp κ n k s l) p l) ∧ mfr PW M0 r.2) := by
      intro m
      induction m with
      | zero => intro q M a b; omega
      | succ m ih =>
        intro q M a1 a2 g
        have h0' := MA_w h0 g
        show okp (f_X12_shownBits_26b 300 (f_X12_shownBits_26 300 m) _ _ _ _) _
        unfold f_X12_shownBits_26b f_X12_shownBits_77 f_X12_shownBits_78
        rw [h0'.2.1.1, nl_m1, nl_50, pk_mul, i1]
        by_cases c : l ≤ q
        · have e : q = l := by omega
          subst e
          rw [if_pos (nI_le c (by omega))]
          exact okp_some ⟨rfl, g⟩
        · rw [if_neg (nI_ge (by omega) (by omega))]
          refine okp_bind (mm_shows hO h0' (by omega) (by omega)) ?_
          rintro ⟨x, M1⟩ ⟨q1, g1⟩
          have g2 := mfr_W g (fz_w g1 (by omega) (by omega))
          have q1' : x = _ := q1
          subst q1'
          refine okp_bind (mm_shows hO (MA_w h0 g2) (by omega) (by omega)) ?_
          rintro ⟨y, M2⟩ ⟨q3, g3⟩
          have g4 := mfr_W g2 (fz_w g3 (by omega) (by omega))
          have q3' : y = _ := q3
          subst q3'
          have ih1 := ih (q + 1) M2 (by omega) (by omega) g4
          rw [mor] at ih1
          have z64 : (0 : Int64) = lN 0 := rfl
          cases hsh : shp κ n k s l q with
          | none =>
            refine okp_t rfl ?_
            rw [hsh] at ih1
            rw [z64, fb_orL]
            exact ih1
          | some e =>
            have h2 := sh200 hO.1 q e hsh
            rw [hsh] at ih1
            refine okp_f (fun q => (mN_eq (show e < 2 ^ 31 by omega)).mp q) ?_
            show okp ((f_X12_isIn 300 (nI e - nI (50 * p)) 0 49 M2).bind _) _
            rw [p_isIn, Option.bind_some, nl_0]
            by_cases r1 : 50 * p ≤ e
            · rw [pk_sub r1, if_neg (nI_nlt (by omega) (by omega)), nl_49]
              by_cases r2 : 49 < e - 50 * p
              · rw [if_pos (nI_lt r2 (by omega)), if_pos (by decide), z64, fb_orL]
                unfold obt at ih1
                simp only [if_neg (show ¬ (50 * p ≤ e ∧ e < 50 * p + 50) by omega)] at ih1
                exact ih1
              · rw [if_neg (nI_nlt (by omega) (by omega)), if_neg (by decide)]
                show okp (f_X12_shownBits_26 300 m (nI p) (lN (mor (shp κ n k s l) p q) ||| (1 : Int64) <<< ((nI e - nI (50 * p)).toInt64 &&& 63)) (nI (q + 1)) M2) _
                rw [pk_sub r1, lsh _ (by omega), fb_orL]
                unfold obt at ih1
                simp only [if_pos (show (50 * p ≤ e ∧ e < 50 * p + 50) by omega)] at ih1
                exact ih1
            · rw [if_pos (show nI e - nI (50 * p) < nI 0 from pk_sneg (by omega) (by omega)), if_pos (by decide), z64, fb_orL]
              unfold obt at ih1
              simp only [if_neg (show ¬ (50 * p ≤ e ∧ e < 50 * p + 50) by omega)] at ih1
              exact ih1
    refine okp_mono (key2 300 0 M0 (by omega) (by omega) mfr_refl) ?_
    rintro r ⟨r1, r2⟩
    refine ⟨?_, by rw [r2.1 80 0 (by unfold PW; omega)]; exact hz, mfr_tr g0 (mfr_w r2 (fun _ _ => PW_R))⟩
    rw [r1, bm_eq hb]
