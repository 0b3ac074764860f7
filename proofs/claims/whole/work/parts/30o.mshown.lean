/-! ===== what the reference says that a window shows ===== -/
def acs (κ n : Nat) (w : Nat → Nat) (i : Nat) : Nat := if κ = 1 then wc (rnk w n) i else if κ = 3 then 0 else wc w i
theorem p_ms17 {F κ n k i x : Nat} {w : Nat → Nat} {M : sm_M} {kb : Int32 → Int32 → sm_M → Option Int32} (hF : MF M κ n k) (hκ : κ < 4) (hn : n ≤ 5) (hw : ∀ i, i < n → M.1 92 i = nI (w i)) (hb : ∀ i, i < n → w i < 8) (hi : i < n) : ∀ (m j : Nat), n < m + j → j ≤ n → (κ = 0 ∨ ∀ q, q < j → q ≠ i → w q ≠ w i) → f_X12_shown_17 F kb m (nI x) (nI i) (nI (fb_ct (fun q => decide (w q < w i)) j)) (nI j) M = if (κ = 0 ∨ ∀ q, q < n → q ≠ i → w q ≠ w i) then kb (nI (if κ = 1 then 8 * x + rnk w n i else if κ = 3 then x else 8 * x + w i)) (nI (i + 1)) M else some mN := by
  intro m
  induction m with
  | zero => intro j a b; omega
  | succ m ih =>
    intro j a1 a2 a3
    show f_X12_shown_17b F kb (f_X12_shown_17 F kb m) _ _ _ _ _ = _
    unfold f_X12_shown_17b f_X12_shown_57 f_X12_shown_79 f_X12_shown_127
    rw [hF.1, hF.2.1, nl_m1, nl_0, nl_1, nl_3, nl_8]
    by_cases h : n ≤ j
    · have e : j = n := by omega
      subst e
      rw [if_pos (nI_le h (by omega)), if_pos a3, g_ib (by omega) (by omega), nI_clamp (by omega), hw i hi, pk_mul, nI_add, nI_add, nI_add]
      simp (disch := omega) only [nI_eq]
      by_cases k1 : κ = 1
      · rw [if_pos k1, if_pos k1]
        rfl
      · rw [if_neg k1, if_neg k1]
        by_cases k3 : κ = 3
        · rw [if_pos k3, if_pos k3]
        · rw [if_neg k3, if_neg k3]
    · have b1 := hb i hi
      have b2 := hb j (by omega)
      have go : (κ = 0 ∨ (j ≠ i → w j ≠ w i)) → (if nI (w i) ≤ nI (w j) then f_X12_shown_17 F kb m (nI x) (nI i) (nI (fb_ct (fun q => decide (w q < w i)) j) + nI 0) (nI j + nI 1) M else f_X12_shown_17 F kb m (nI x) (nI i) (nI (fb_ct (fun q => decide (w q < w i)) j) + nI 1) (nI j + nI 1) M) = if (κ = 0 ∨ ∀ q, q < n → q ≠ i → w q ≠ w i) then kb (nI (if κ = 1 then 8 * x + rnk w n i else if κ = 3 then x else 8 * x + w i)) (nI (i + 1)) M else some mN := by
        intro hg
        have ih1 := ih (j + 1) (by omega) (by omega) (by
          rcases a3 with q | q
          · exact Or.inl q
          · rcases hg with p | p
            · exact Or.inl p
            · refine Or.inr (fun x hx => ?_)
              by_cases e : x = j
              · subst e; exact p
              · exact q x (by omega))
        rw [fb_ct_succ] at ih1
        rw [nI_add, nI_add, nI_add]
        simp (disch := omega) only [nI_leI]
        by_cases q : w i ≤ w j
        · rw [if_pos q]
          rw [if_neg (by simp only [decide_eq_true_eq]; omega)] at ih1
          exact ih1
        · rw [if_neg q]
          rw [if_pos (by simp only [decide_eq_true_eq]; omega)] at ih1
          exact ih1
      rw [if_neg (nI_ge (by omega) (by omega))]
      simp only [g_ib (show j < 5 by omega) (show 5 < 2 ^ 31 by omega), g_ib (show i < 5 by omega) (show 5 < 2 ^ 31 by omega), nI_clamp (show i < 2 ^ 31 by omega), nI_clamp (show j < 2 ^ 31 by omega), hw i hi, hw j (show j < n by omega)]
      have e9 : (nI j + 1 : Int32) = nI j + nI 1 := rfl
      by_cases c1 : j = i
      · rw [if_pos (by rw [c1])]
        exact go (Or.inr (fun q => absurd c1 q))
      · rw [if_neg (fun q => c1 ((nI_eq (by omega) (by omega)).mp q))]
        by_cases c2 : κ = 0
        · rw [if_pos (by rw [c2])]
          exact go (Or.inl c2)
        · rw [if_neg (fun q => c2 ((nI_eq (by omega) (by omega)).mp q))]
          by_cases c3 : w j = w i
          · rw [if_pos (by rw [c3]), if_neg]
            rintro (q | q)
            · exact c2 q
            · exact q j (by omega) c1 c3
          · rw [if_neg (fun q => c3 ((nI_eq (by omega) (by omega)).mp q))]
            exact go (Or.inr (fun _ => c3))
theorem p_msort {F κ n k : Nat} {w : Nat → Nat} {M : sm_M} (hF : MF M κ n k) (hn : n ≤ 5) (hk : k ≤ 8) (hw : ∀ i, i < n → M.1 92 i = nI (w i)) (hb : ∀ i, i < n → w i < 8) (hd : dist w n) (hf : 8 < F) : f_X12_sortedCode F M = some (nI (ascn (mskn w n) k)) := by
  have inn : ∀ (kb : Int32 → Int32 → sm_M → Option Int32) (t x : Nat), t < 8 → ∀ (m i : Nat), n < m + i → i ≤ n → f_X12_sortedCode_14 F kb m (nI (if (mskn w i).testBit t = true then 8 * x + t else x)) (nI t) (nI i) M = kb (nI (if (mskn w n).testBit t = true then 8 * x + t else x)) (nI (t + 1)) M := by
    intro kb t x ht m
    induction m with
    | zero => intro i a b; omega
    | succ m ih =>
      intro i a1 a2
      show f_X12_sortedCode_14b F kb (f_X12_sortedCode_14 F kb m) _ _ _ _ = _
      unfold f_X12_sortedCode_14b f_X12_sortedCode_42
      rw [hF.2.1]
      by_cases h : n ≤ i
      · have e : i = n := by omega
        subst e
        rw [if_pos (nI_le h (by omega)), i1]
      · have ih1 := ih (i + 1) (by omega) (by omega)
        have b1 := hb i (by omega)
        rw [bit_s] at ih1
        rw [if_neg (nI_ge (by omega) (by omega)), g_ib (by omega) (by omega), nI_clamp (by omega), hw i (by omega), nl_8, pk_mul, nI_add, i1]
        simp (disch := omega) only [nI_eq]
        by_cases c : w i = t
        · have hnb : (mskn w i).testBit t = false := by
            rw [← c, msk_new]
            exact fun q hq => hd q i hq (by omega)
          rw [hnb] at ih1 ⊢
          rw [decide_eq_true c] at ih1
          rw [if_pos c]
          exact ih1
        · rw [decide_eq_false c, Bool.or_false] at ih1
          rw [if_neg c]
          exact ih1
  have key : ∀ (m t : Nat), k < m + t → t ≤ k → f_X12_sortedCode_4 F m (nI (ascn (mskn w n) t)) (nI t) M = some (nI (ascn (mskn w n) k)) := by
    intro m
    induction m with
    | zero => intro i a b; omega
    | succ m ih =>
      intro t a1 a2
      show f_X12_sortedCode_4b F (f_X12_sortedCode_4 F m) _ _ _ = _
      unfold f_X12_sortedCode_4b
      rw [hF.2.2.1]
      by_cases h : k ≤ t
      · have e : t = k := by omega
        subst e
        rw [if_pos (nI_le h (by omega))]
      · have e0 : (nI (if (mskn w 0).testBit t = true then 8 * ascn (mskn w n) t + t else ascn (mskn w n) t)) = nI (ascn (mskn w n) t) := by
          rw [mskn, Nat.zero_testBit]
          rfl
        have e1 := inn (f_X12_sortedCode_4 F m) t (ascn (mskn w n) t) (by omega) F 0 (by omega) (by omega)
        rw [e0] at e1
        rw [if_neg (nI_ge (by omega) (by omega)), nl_0, e1]
        exact ih (t + 1) (by omega) (by omega)
  exact key F 0 (by omega) (by omega)
theorem ascn_k {w : Nat → Nat} {n k : Nat} (hw : ∀ i, i < n → w i < k) : ∀ d, ascn (mskn w n) (k + d) = ascn (mskn w n) k
  | 0 => rfl
  | d + 1 => by
    have hb : ¬ (mskn w n).testBit (k + d) = true := fun h => by
      obtain ⟨i, hi, e⟩ := mskn_bit.mp h
      have := hw i hi
      omega
    rw [← Nat.add_assoc, ascn, if_neg hb, ascn_k hw d]
theorem dist_of {w : Nat → Nat} {n : Nat} (h : ∀ p, p < n → ∀ q, q < n → q ≠ p → w q ≠ w p) : dist w n := fun i j hij hj => h j hj i (by omega) (by omega)
theorem p_mshown {F κ n k : Nat} {w : Nat → Nat} {M : sm_M} (ho : okF κ n k = true) (hF : MF M κ n k) (hw : ∀ i, i < n → M.1 92 i = nI (w i)) (hb : ∀ i, i < n → w i < k) (hf : 8 < F) : f_X12_shown F M = some (oI (shw κ n k w)) := by
  obtain ⟨o1, o2, o3, o4, o5, -, -⟩ := okF_of ho
  have hb8 : ∀ i, i < n → w i < 8 := fun i hi => Nat.lt_of_lt_of_le (hb i hi) o5
  have h5 : 8 ^ n ≤ 32768 := Nat.le_trans (Nat.pow_le_pow_right (by decide) o3) (by decide)
  have fin : ∀ c, c < 8 ^ n → f_X12_shown_154 F (nI c) M = some (oI (idxo (els κ n k) c)) := fun c hc => by
    unfold f_X12_shown_154
    rw [g_ib (by omega) (by omega), nI_clamp (by omega), hF.2.2.2.2.2.1 c hc]
  have key : ∀ (m i : Nat), n < m + i → i ≤ n → (κ = 0 ∨ ∀ p, p < i → ∀ q, q < n → q ≠ p → w q ≠ w p) → f_X12_shown_4 F m (nI (acs κ n w i)) (nI i) M = some (oI (shw κ n k w)) := by
    intro m
    induction m with
    | zero => intro i a b; omega
    | succ m ih =>
      intro i a1 a2 a3
      show f_X12_shown_4b F (f_X12_shown_4 F m) _ _ _ = _
      unfold f_X12_shown_4b
      rw [hF.1, hF.2.1, nl_3]
      simp (disch := omega) only [nI_eq]
      by_cases h : n ≤ i
      · have e : i = n := by omega
        subst e
        rw [if_pos (nI_le h (by omega))]
        have hc : κ = 0 ∨ dstb w i = true := by
          rcases a3 with q | q
          · exact Or.inl q
          · exact Or.inr ((dstb_iff hb8).mpr (dist_of q))
        have hlt := shc_lt (κ := κ) hb8 o3 hc
        unfold shw
        rw [if_pos hc]
        by_cases k3 : κ = 3
        · have hd : dist w i := by
            rcases a3 with q | q
            · omega
            · exact dist_of q
          have e2 : shc κ i w = ascn (mskn w i) k := by
            unfold shc
            rw [if_neg (by omega), if_pos k3]
            have := ascn_k hb (8 - k)
            rwa [Nat.add_sub_cancel' o5] at this
          rw [if_pos k3, p_msort hF o3 o5 hw hb8 hd hf, Option.bind_some]
          rw [e2] at hlt ⊢
          exact fin _ hlt
        · have e2 : acs κ i w i = shc κ i w := by
            unfold acs shc
            by_cases k1 : κ = 1
            · rw [if_pos k1, if_pos k1]
            · rw [if_neg k1, if_neg k1, if_neg k3, if_neg k3]
          rw [if_neg k3, e2]
          exact fin _ hlt
      · rw [if_neg (nI_ge (by omega) (by omega)), nl_0]
        have e1 := p_ms17 (F := F) (x := acs κ n w i) (kb := f_X12_shown_4 F m) hF o1 o3 hw hb8 (show i < n by omega) F 0 (by omega) (by omega) (Or.inr (fun q hq => by omega))
        rw [show fb_ct (fun q => decide (w q < w i)) 0 = 0 from rfl] at e1
        rw [e1]
        by_cases g : κ = 0 ∨ ∀ q, q < n → q ≠ i → w q ≠ w i
        · rw [if_pos g]
          have e2 : (if κ = 1 then 8 * acs κ n w i + rnk w n i else if κ = 3 then acs κ n w i else 8 * acs κ n w i + w i) = acs κ n w (i + 1) := by
            unfold acs
            by_cases k1 : κ = 1
            · simp only [if_pos k1]
              rfl
            · by_cases k3 : κ = 3
              · simp only [if_neg k1, if_pos k3]
              · simp only [if_neg k1, if_neg k3]
                rfl
          rw [e2]
          refine ih (i + 1) (by omega) (by omega) ?_
          rcases a3 with q | q
          · exact Or.inl q
          · rcases g with p | p
            · exact Or.inl p
            · refine Or.inr (fun x hx => ?_)
              by_cases e : x = i
              · subst e; exact p
              · exact q x (by omega)
        · rw [if_neg g]
          have hc : ¬ (κ = 0 ∨ dstb w n = true) := by
            rintro (q | q)
            · exact g (Or.inl q)
            · refine g (Or.inr (fun x hx hxi => ?_))
              have hd := (dstb_iff hb8).mp q
              rcases Nat.lt_or_gt_of_ne hxi with y | y
              · exact hd x i y (by omega)
              · exact fun e => hd i x y hx e.symm
          unfold shw
          rw [if_neg hc]
          rfl
  have e0 : acs κ n w 0 = 0 := by
    unfold acs
    split
    · rfl
    · split <;> rfl
  have := key F 0 (by omega) (by omega) (Or.inr (fun p hp => by omega))
  rw [e0] at this
  exact this
theorem MF_w {M M' : sm_M} {κ n k : Nat} (h : MF M κ n k) (g : fz 92 101 M M') : MF M' κ n k := MF_c h (fun j _ _ => by rw [fz_1 g (by omega)]) (fun x _ _ => fz_1 g (by omega))
theorem p_mshows {F κ n k l p : Nat} {s : Nat → Nat} {M0 : sm_M} (ho : okF κ n k = true) (hF : MF M0 κ n k) (h3 : M0.1 80 12 = nI l) (h4 : ∀ i, i < l → M0.1 86 i = nI (s i)) (h0 : 0 < l) (hl : l ≤ 240) (hs : ∀ i, i < l → s i < k) (hp : p < 1000) (hf : 8 < F) : okp (f_X12_shows F (nI p) M0) (fun r => r.1 = oI (shp κ n k s l p) ∧ fz 92 93 M0 r.2) := by
  obtain ⟨o1, o2, o3, o4, o5, -, -⟩ := okF_of ho
  have key : ∀ (m i : Nat) (M : sm_M), n < m + i → i ≤ n → fz 92 93 M0 M → (∀ j, j < i → M.1 92 j = nI (cyw s l p j)) → okp (f_X12_shows_2 F m (nI p) (nI i) M) (fun r => r.1 = oI (shp κ n k s l p) ∧ fz 92 93 M0 r.2) := by
    intro m
    induction m with
    | zero => intro i M a b; omega
    | succ m ih =>
      intro i M a1 a2 g a3
      have hF' := MF_w hF (fz_w g (by omega) (by omega))
      show okp (f_X12_shows_2b F (f_X12_shows_2 F m) _ _ _) _
      unfold f_X12_shows_2b
      rw [hF'.2.1, fz_1 g (a := 80) (by omega), fz_1 g (a := 86) (by omega), h3]
      by_cases h : n ≤ i
      · have e : i = n := by omega
        subst e
        rw [if_pos (nI_le h (by omega)), p_mshown ho hF' a3 (fun j _ => hs _ (Nat.mod_lt _ h0)) hf, Option.bind_some]
        exact okp_some ⟨rfl, g⟩
      · have hm : (p + i) % l < l := Nat.mod_lt _ h0
        rw [if_neg (nI_ge (by omega) (by omega)), g_nz (by omega) (by omega), nI_add, pk_rem (by omega) (by omega) (by omega), g_ib (by omega) (by omega), g_ib (by omega) (by omega), nI_clamp (by omega), nI_clamp (by omega), h4 _ hm, i1]
        refine ih (i + 1) _ (by omega) (by omega) (fz_then g (by omega) (by omega)) (fun j hj => ?_)
        by_cases e : j = i
        · subst e
          rw [mi_eq]
          rfl
        · rw [mi_ni e]
          exact a3 j (by omega)
  exact key F 0 M0 (by omega) (by omega) fz_refl (fun j hj => by omega)
