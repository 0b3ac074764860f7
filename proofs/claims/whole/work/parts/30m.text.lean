/-! ===== write, read, save ===== -/
theorem p_wr_l {l : Nat} {s : Nat → Nat} {M0 : sm_M} (h3 : M0.1 24 1 = nI l) (h4 : ∀ i, i < l → M0.1 25 i = nI (s i)) (hs : ∀ i, i < l → s i < 8) (hl : l ≤ 240) : ∀ (m i : Nat) (M : sm_M), l < m + i → i ≤ l → fz 77 78 M0 M → (∀ j, j < i → M.1 77 j = nI (48 + s j)) → okp (f_X11_write_2 300 m (nI i) M) (fun r => r.1 = nI l ∧ r.2.1 0 12 = nI l ∧ (∀ j, j < l → r.2.1 77 j = nI (48 + s j)) ∧ ∀ a j, a ≠ 77 → (a = 0 → j ≠ 12) → r.2.1 a j = M0.1 a j) := by
  intro m
  induction m with
  | zero => intro i M h1 h2; omega
  | succ m ih =>
    intro i M h1 h2 g a1
    show okp (f_X11_write_2b 300 (f_X11_write_2 300 m) _ _) _
    unfold f_X11_write_2b
    rw [fz_1 g (a := 24) (by omega), fz_1 g (a := 25) (by omega), h3]
    by_cases h : l ≤ i
    · rw [if_pos (nI_le h (by omega)), mi_eq]
      refine okp_some ⟨rfl, mi_eq _ _ _ _, fun j hj => ?_, fun a j e1 e2 => ?_⟩
      · rw [mi_na (by omega)]
        exact a1 j (by omega)
      · rw [mi_1, if_neg (fun e => e2 e.1 e.2), fz_1 g (by omega)]
    · rw [if_neg (nI_ge (by omega) (by omega)), g_ib (by omega) (by omega), g_ib (by omega) (by omega), nI_clamp (by omega), h4 i (by omega), wr_ch (hs i (by omega)), i1]
      refine ih (i + 1) _ (by omega) (by omega) (fz_then g (by omega) (by omega)) (fun j hj => ?_)
      by_cases e : j = i
      · subst e
        rw [mi_eq]
      · rw [mi_ni e]
        exact a1 j (by omega)
theorem p_mwr_l {l : Nat} {s : Nat → Nat} {M0 : sm_M} (h3 : M0.1 80 12 = nI l) (h4 : ∀ i, i < l → M0.1 86 i = nI (s i)) (hs : ∀ i, i < l → s i < 8) (hl : l ≤ 240) : ∀ (m i : Nat) (M : sm_M), l < m + i → i ≤ l → fz 91 92 M0 M → (∀ j, j < i → M.1 91 j = nI (48 + s j)) → okp (f_X12_write_15 300 m (nI i) M) (fun r => r.1 = nI l ∧ (∀ j, j < l → r.2.1 91 j = nI (48 + s j)) ∧ fz 91 92 M0 r.2) := by
  intro m
  induction m with
  | zero => intro i M h1 h2; omega
  | succ m ih =>
    intro i M h1 h2 g a1
    show okp (f_X12_write_15b 300 (f_X12_write_15 300 m) _ _) _
    unfold f_X12_write_15b
    rw [fz_1 g (a := 80) (by omega), fz_1 g (a := 86) (by omega), h3]
    by_cases h : l ≤ i
    · rw [if_pos (nI_le h (by omega))]
      exact okp_some ⟨rfl, fun j hj => a1 j (by omega), g⟩
    · rw [if_neg (nI_ge (by omega) (by omega)), g_ib (by omega) (by omega), g_ib (by omega) (by omega), nI_clamp (by omega), h4 i (by omega), wr_ch (hs i (by omega)), i1]
      refine ih (i + 1) _ (by omega) (by omega) (fz_then g (by omega) (by omega)) (fun j hj => ?_)
      by_cases e : j = i
      · subst e
        rw [mi_eq]
      · rw [mi_ni e]
        exact a1 j (by omega)
theorem q_11 : lq_11 IV := by
  rintro M ⟨κ, n, k, l, s, hc, hl, hs, b, v, hO, hC, hM⟩
  obtain ⟨fi, inp, fo, out⟩ := b
  have hl2 := hO.2.1.1
  have h8 := sk8 hO.2.1 (ok_k hO.1)
  refine lp_d_g (b' := (fi, inp, l, fun i => 48 + s i)) 300 300 (nI l) hM ⟨hO.1, hO.2.1, ⟨hO.2.2.1.1, hl2, hO.2.2.1.2.2.1, fun i hi => ?_⟩, hO.2.2.2⟩ ?_ (fun M h => ?_)
  · have := h8 i hi
    show 48 + s i < 65536
    omega
  · show okp (f_X11_write 300 M) _
    unfold f_X11_write
    refine okp_mono (p_wr_l hC.2.1.1.1 hC.2.1.1.2 h8 hl2 300 0 M (by omega) (by omega) fz_refl (fun j hj => by omega)) ?_
    rintro r ⟨r1, r2, r3, r4⟩
    have e : ∀ a, a ≠ 77 → a ≠ 0 → r.2.1 a = M.1 a := fun a h1 h2 => funext fun j => r4 a j h1 (fun h => absurd h h2)
    refine ⟨r1, ⟨CF_c hC.1 (fun x _ _ => e x (by omega) (by omega)), CQ_c hC.2.1 (fun x _ _ => e x (by omega) (by omega)), ⟨?_, fun i hi => ?_, r2, r3⟩, CV_c hC.2.2.2 (fun j _ _ => r4 0 j (by omega) (by omega)) (e _ (by omega) (by omega)) (e _ (by omega) (by omega))⟩, fun a ha => e a (by omega) (by omega)⟩
    · rw [r4 0 10 (by omega) (by omega)]
      exact hC.2.2.1.1
    · rw [e 76 (by omega) (by omega)]
      exact hC.2.2.1.2.1 i hi
  · show okp (f_X12_write 300 M) _
    unfold f_X12_write
    obtain ⟨M0, e00, h0, hz, g0⟩ := mz0 h; rw [e00]
    rw [h0.2.1.1]
    have key := p_mwr_l (M0 := sm_mi M0 80 20 (nI l)) (l := l) (s := s) (by rw [mi_ni (by omega)]; exact h0.2.1.1) (fun i hi => by rw [mi_na (by omega)]; exact h0.2.1.2.1 i hi) h8 hl2 300 0 _ (by omega) (by omega) fz_refl (fun j hj => by omega)
    obtain ⟨r, e, r1, r2, r3⟩ := key
    refine ⟨r, e, r1, ?_, ?_⟩
    · have e2 : ∀ a, a ≠ 91 → r.2.1 a = (sm_mi M0 80 20 (nI l)).1 a := fun a ha => fz_1 r3 (by omega)
      refine ⟨MF_c h0.1 (fun j _ _ => ?_) (fun x _ _ => ?_), MsQ_c h0.2.1 ?_ ?_ (fun x _ _ => ?_), ⟨?_, fun i hi => ?_, ?_, r2⟩, MV_c h0.2.2.2 (fun j _ _ => ?_) ?_⟩
      · rw [e2 80 (by omega), mi_ni (by omega)]
      · rw [e2 x (by omega), mi_na (by omega)]
      · rw [e2 80 (by omega), mi_ni (by omega)]
      · rw [e2 80 (by omega), mi_ni (by omega)]
      · rw [e2 x (by omega), mi_na (by omega)]
      · rw [e2 80 (by omega), mi_ni (by omega)]
        exact h0.2.2.1.1
      · rw [e2 90 (by omega), mi_na (by omega)]
        exact h0.2.2.1.2.1 i hi
      · rw [e2 80 (by omega), mi_eq]
      · rw [e2 80 (by omega), mi_ni (by omega)]
      · rw [e2 101 (by omega), mi_na (by omega)]
    · exact mfr_fz (mfr_mi (mfr_w g0 (fun _ _ h => PQ_A (PR_Q h))) (by unfold PA; omega)) r3 (fun a j _ _ => by unfold PA; omega) (by omega)
/-! save -/
theorem p_msv_l {l : Nat} {s : Nat → Nat} {M0 : sm_M} (h3 : M0.1 80 12 = nI l) (h4 : ∀ i, i < l → M0.1 86 i = nI (s i)) (hl : l ≤ 240) : ∀ (m i : Nat) (M : sm_M), l < m + i → i ≤ l → fz 101 102 M0 M → (∀ j, j < i → M.1 101 j = nI (s j)) → okp (f_X12_save_44 300 m (nI i) M) (fun r => r.1 = nI l ∧ (∀ j, j < l → r.2.1 101 j = nI (s j)) ∧ fz 101 102 M0 r.2) := by
  intro m
  induction m with
  | zero => intro i M h1 h2; omega
  | succ m ih =>
    intro i M h1 h2 g a1
    show okp (f_X12_save_44b 300 (f_X12_save_44 300 m) _ _) _
    unfold f_X12_save_44b
    rw [fz_1 g (a := 80) (by omega), fz_1 g (a := 86) (by omega), h3]
    by_cases h : l ≤ i
    · rw [if_pos (nI_le h (by omega))]
      exact okp_some ⟨rfl, fun j hj => a1 j (by omega), g⟩
    · rw [if_neg (nI_ge (by omega) (by omega)), g_ib (by omega) (by omega), g_ib (by omega) (by omega), nI_clamp (by omega), h4 i (by omega), i1]
      refine ih (i + 1) _ (by omega) (by omega) (fz_then g (by omega) (by omega)) (fun j hj => ?_)
      by_cases e : j = i
      · subst e
        rw [mi_eq]
      · rw [mi_ni e]
        exact a1 j (by omega)
theorem q_40 : lq_40 IV := by
  rintro M ⟨κ, n, k, l, s, hc, hl, hs, b, v, hO, hC, hM⟩
  have hl2 := hO.2.1.1
  refine lp_d_g (v' := (1, κ, n, k, l, s)) 300 300 (nI l) hM ⟨hO.1, hO.2.1, hO.2.2.1, Or.inr ⟨rfl, hO.1, hl2, hO.2.1.2.1⟩⟩ ?_ (fun M h => ?_)
  · show okp (f_X11_save 300 M) _
    unfold f_X11_save
    simp (disch := omega) only [mi_ni, mi_na, hC.1.1.1, hC.1.1.2.1, hC.1.1.2.2.1]
    refine okp_bind (p_copy (l := l) (s := s) (by omega) (rowp_c hC.2.1.1 (by simp (disch := omega) only [mi_eq, mi_na, mi_ni, mi_2, ml_1, ml_na]) (by simp (disch := omega) only [mi_eq, mi_na, mi_ni, mi_2, ml_1, ml_na])) hl2) ?_
    rintro M1 ⟨q1, g1⟩
    have e : ∀ a, a < 78 → a ≠ 0 → (sm_mi M1 0 17 1).1 a = M.1 a := fun a h1 h2 => by
      rw [mi_na h2, fz_1 g1 (by omega)]
      simp (disch := omega) only [mi_eq, mi_na, mi_ni, mi_2, ml_1, ml_na]
    have e0 : ∀ j, j < 14 → (sm_mi M1 0 17 1).1 0 j = M.1 0 j := fun j hj => by
      rw [mi_ni (by omega), fz_1 g1 (by omega)]
      simp (disch := omega) only [mi_eq, mi_na, mi_ni, mi_2, ml_1, ml_na]
    refine okp_some ⟨?_, ⟨CF_c hC.1 (fun x _ _ => e x (by omega) (by omega)), CQ_c hC.2.1 (fun x _ _ => e x (by omega) (by omega)), CB_c hC.2.2.1 (e0 _ (by omega)) (e0 _ (by omega)) (e _ (by omega) (by omega)) (e _ (by omega) (by omega)), mi_eq _ _ _ _, fun _ => ⟨?_, ?_, ?_, ?_⟩⟩, fun a ha => ?_⟩
    · show M1.1 24 1 = nI l
      rw [fz_1 g1 (by omega)]
      simp (disch := omega) only [mi_eq, mi_na, mi_ni, mi_2, ml_1, ml_na]
      exact hC.2.1.1.1
    · rw [mi_ni (by omega), fz_1 g1 (by omega)]
      simp (disch := omega) only [mi_eq, mi_na, mi_ni, mi_2, ml_1, ml_na]
    · rw [mi_ni (by omega), fz_1 g1 (by omega)]
      simp (disch := omega) only [mi_eq, mi_na, mi_ni, mi_2, ml_1, ml_na]
    · rw [mi_ni (by omega), fz_1 g1 (by omega)]
      simp (disch := omega) only [mi_eq, mi_na, mi_ni, mi_2, ml_1, ml_na]
    · exact rowp_c q1 (by rw [mi_na (by omega)]) (by rw [mi_na (by omega)])
    · rw [mi_na (by omega), fz_1 g1 (by omega)]
      simp (disch := omega) only [mi_eq, mi_na, mi_ni, mi_2, ml_1, ml_na]
  · show okp (f_X12_save 300 M) _
    unfold f_X12_save
    obtain ⟨M0, e00, h0, hz, g0⟩ := mz0 h; rw [e00]
    simp (disch := omega) only [mi_ni, h0.1.1, h0.1.2.1, h0.1.2.2.1, h0.2.1.1]
    generalize hM9 : sm_mi (sm_mi (sm_mi (sm_mi (sm_mi M0 80 30 1) 80 31 (nI κ)) 80 32 (nI n)) 80 33 (nI k)) 80 34 (nI l) = M9
    have e : ∀ a, a ≠ 80 → M9.1 a = M0.1 a := fun a h1 => by
      rw [← hM9]
      simp (disch := omega) only [mi_eq, mi_na, mi_ni, mi_2, ml_1, ml_na]
    have e0 : ∀ j, j < 30 → M9.1 80 j = M0.1 80 j := fun j hj => by
      rw [← hM9]
      simp (disch := omega) only [mi_eq, mi_na, mi_ni, mi_2, ml_1, ml_na]
    have e1 : M9.1 80 30 = nI 1 ∧ M9.1 80 31 = nI κ ∧ M9.1 80 32 = nI n ∧ M9.1 80 33 = nI k ∧ M9.1 80 34 = nI l := by
      rw [← hM9]
      exact ⟨by simp (disch := omega) only [mi_eq, mi_na, mi_ni, mi_2, ml_1, ml_na]; rfl, by simp (disch := omega) only [mi_eq, mi_na, mi_ni, mi_2, ml_1, ml_na], by simp (disch := omega) only [mi_eq, mi_na, mi_ni, mi_2, ml_1, ml_na], by simp (disch := omega) only [mi_eq, mi_na, mi_ni, mi_2, ml_1, ml_na], by simp (disch := omega) only [mi_eq, mi_na, mi_ni, mi_2, ml_1, ml_na]⟩
    have gA : mfr PA M M9 := by
      rw [← hM9]
      exact mfr_mi (mfr_mi (mfr_mi (mfr_mi (mfr_mi (mfr_w g0 (fun _ _ h => PQ_A (PR_Q h))) (by unfold PA; omega)) (by unfold PA; omega)) (by unfold PA; omega)) (by unfold PA; omega)) (by unfold PA; omega)
    refine okp_mono (p_msv_l (M0 := M9) (l := l) (s := s) (by rw [e0 12 (by omega)]; exact h0.2.1.1) (fun i hi => by rw [e 86 (by omega)]; exact h0.2.1.2.1 i hi) hl2 300 0 _ (by omega) (by omega) fz_refl (fun j hj => by omega)) ?_
    rintro r ⟨r1, r2, r3⟩
    have f : ∀ a, a ≠ 101 → r.2.1 a = M9.1 a := fun a ha => fz_1 r3 (by omega)
    refine ⟨r1, ⟨MF_c h0.1 (fun j _ _ => ?_) (fun x _ _ => ?_), MsQ_c h0.2.1 ?_ ?_ (fun x _ _ => ?_), MB_c h0.2.2.1 ?_ ?_ ?_ ?_, ?_, fun _ => ⟨?_, ?_, ?_, ?_, r2⟩⟩, mfr_fz gA r3 (fun a j _ _ => by unfold PA; omega) (by omega)⟩
    · rw [f 80 (by omega), e0 j (by omega)]
    · rw [f x (by omega), e x (by omega)]
    · rw [f 80 (by omega), e0 _ (by omega)]
    · rw [f 80 (by omega), e0 _ (by omega)]
    · rw [f x (by omega), e x (by omega)]
    · rw [f 80 (by omega), e0 _ (by omega)]
    · rw [f 80 (by omega), e0 _ (by omega)]
    · rw [f 90 (by omega), e 90 (by omega)]
    · rw [f 91 (by omega), e 91 (by omega)]
    · rw [f 80 (by omega)]
      exact e1.1
    · rw [f 80 (by omega)]
      exact e1.2.1
    · rw [f 80 (by omega)]
      exact e1.2.2.1
    · rw [f 80 (by omega)]
      exact e1.2.2.2.1
    · rw [f 80 (by omega)]
      exact e1.2.2.2.2
/-! read -/
def gdc (k c : Nat) : Bool := decide (48 ≤ c) && decide (c < 48 + k)
theorem gd_t {k c : Nat} (h : gdc k c = true) : 48 ≤ c ∧ c < 48 + k := by simpa [gdc] using h
theorem gd_f {k c : Nat} (h : ¬ gdc k c = true) : c < 48 ∨ 48 + k ≤ c := by
  simp only [gdc, Bool.and_eq_true, decide_eq_true_eq] at h
  omega
theorem fst_at {p : Nat → Bool} {n i : Nat} (hi : i < n) (h1 : ∀ j, j < i → p j = false) (h2 : p i = true) : fa_first p n = i := by
  rcases Nat.lt_trichotomy (fa_first p n) i with h | h | h
  · have a := fa_first_yes p n (by omega)
    rw [h1 _ h] at a
    cases a
  · exact h
  · have a := fa_first_no p n i h
    rw [h2] at a
    cases a
theorem fst_all {p : Nat → Bool} {n : Nat} (h1 : ∀ j, j < n → p j = false) : fa_first p n = n := by
  have h2 := fa_first_le p n
  rcases Nat.lt_or_ge (fa_first p n) n with h | h
  · have a := fa_first_yes p n h
    rw [h1 _ h] at a
    cases a
  · omega
theorem p_rd12 {F k fi : Nat} {inp : Nat → Nat} {M : sm_M} (hk : k ≤ 8) (h1 : M.1 1 3 = nI k) (h2 : ∀ i, i < fi → M.1 76 i = nI (inp i)) (h6 : ∀ i, i < fi → inp i < 65536) (hfi : fi ≤ 240) : ∀ (m i : Nat), fi < m + i → i ≤ fi → (∀ j, j < i → (!gdc k (inp j)) = false) → f_X11_read_12 F m (nI fi) (nI i) M = if fa_first (fun j => !gdc k (inp j)) fi < fi then some ((-100 : Int32) - nI (fa_first (fun j => !gdc k (inp j)) fi), M) else ((f_X6_remember F 24 M).bind fun q2 => f_X11_read_69 F F (nI fi) (0 : Int32) ((sm_mi q2.2 24 1 (0 : Int32)))) := by
  intro m
  induction m with
  | zero => intro i a b; omega
  | succ m ih =>
    intro i a1 a2 a3
    show f_X11_read_12b F (f_X11_read_12 F m) _ _ _ = _
    unfold f_X11_read_12b
    by_cases h : fi ≤ i
    · have e : i = fi := by omega
      subst e
      rw [if_pos (nI_le h (by omega)), fst_all a3, if_neg (by omega)]
    · have hi6 := h6 i (by omega)
      rw [if_neg (nI_ge (by omega) (by omega)), g_ib (by omega) (by omega), nI_clamp (by omega), h2 i (by omega), nl_48]
      by_cases g : gdc k (inp i) = true
      · have := gd_t g
        rw [pk_sub (by omega), p_hasSy_in h1 (by omega) hk, Option.bind_some, if_neg (by decide), i1]
        refine ih (i + 1) (by omega) (by omega) (fun j hj => ?_)
        by_cases e : j = i
        · rw [e, g]
          rfl
        · exact a3 j (by omega)
      · have ho : nI (inp i) - nI 48 < 0 ∨ nI k ≤ nI (inp i) - nI 48 := by
          rcases gd_f g with q | q
          · exact Or.inl (pk_sneg (by omega) q)
          · rw [pk_sub (by omega)]
            exact Or.inr (nI_le (by omega) (by omega))
        have e := fst_at (p := fun j => !gdc k (inp j)) (n := fi) (i := i) (by omega) a3 (by simp only [g]; rfl)
        rw [p_hasSy_out h1 ho, Option.bind_some, if_pos (by decide), e, if_pos (by omega)]
theorem p_rd69 {F fi : Nat} {inp : Nat → Nat} {M0 : sm_M} (h2 : ∀ i, i < fi → M0.1 76 i = nI (inp i)) (h6 : ∀ i, i < fi → 48 ≤ inp i) (hfi : fi ≤ 240) : ∀ (m i : Nat) (M : sm_M), fi < m + i → i ≤ fi → fz 24 26 M0 M → rowp M 24 i (fun j => inp j - 48) → okp (f_X11_read_69 F m (nI fi) (nI i) M) (fun r => r.1 = nI fi ∧ rowp r.2 24 fi (fun j => inp j - 48) ∧ fz 24 26 M0 r.2) := by
  intro m
  induction m with
  | zero => intro i M a b; omega
  | succ m ih =>
    intro i M a1 a2 g a3
    show okp (f_X11_read_69b F (f_X11_read_69 F m) _ _ _) _
    unfold f_X11_read_69b
    by_cases h : fi ≤ i
    · have e : i = fi := by omega
      subst e
      rw [if_pos (nI_le h (by omega)), a3.1]
      exact okp_some ⟨rfl, a3, g⟩
    · rw [if_neg (nI_ge (by omega) (by omega)), g_ib (by omega) (by omega), nI_clamp (by omega), fz_1 g (by omega), h2 i (by omega), nl_48, pk_sub (h6 i (by omega)), i1]
      refine okp_bind (p_push a3 (by omega)) ?_
      rintro M1 ⟨q1, g1, -⟩
      refine ih (i + 1) M1 (by omega) (by omega) (fz_tr g g1 (by omega) (by omega) (by omega) (by omega)) (rowp_s q1 (fun j hj => ?_))
      by_cases e : j = i
      · rw [if_pos e, e]
      · rw [if_neg e]
theorem p_mrd {M0 : sm_M} {κ n k l : Nat} {s : Nat → Nat} {hc : Nat} {hl : Nat → Nat} {hs : Nat → Nat → Nat} {b : Bf} {v : Sv} {fi : Nat} {inp : Nat → Nat} (hO : Ok κ n k l s hc hl hs b v) (h0 : MA M0 κ n k l s hc hl hs b v) (h2 : ∀ i, i < fi → M0.1 90 i = nI (inp i)) (h6 : ∀ i, i < fi → inp i < 65536) (hfi : fi ≤ 240) : ∀ (m i : Nat) (M : sm_M), fi < m + i → i ≤ fi → mfr PW M0 M → (∀ j, j < i → (!gdc k (inp j)) = false) → (∀ j, j < i → M.1 89 j = nI (inp j - 48)) → okp (f_X12_read_17 300 m (nI fi) (nI i) M) (fun r => (fa_first (fun j => !gdc k (inp j)) fi < fi ∧ r.1 = (-100 : Int32) - nI (fa_first (fun j => !gdc k (inp j)) fi) ∧ mfr PW M0 r.2) ∨ (fa_first (fun j => !gdc k (inp j)) fi = fi ∧ r.1 = nI fi ∧ MsQ r.2 fi (fun j => inp j - 48) (hup hc) (hcons l hl) (hcons s hs) ∧ mfr PZ M0 r.2)) := by
  have hk := ok_k hO.1
  intro m
  induction m with
  | zero => intro i M a b; omega
  | succ m ih =>
    intro i M a1 a2 g a3 a4
    have h0' := MA_w h0 g
    show okp (f_X12_read_17b 300 (f_X12_read_17 300 m) _ _ _) _
    unfold f_X12_read_17b
    by_cases h : fi ≤ i
    · have e : i = fi := by omega
      subst e
      rw [if_pos (nI_le h (by omega))]
      refine okp_bind (mm_made (s' := fun j => inp j - 48) hO.2.1 h0 g hfi a4) ?_
      rintro M' ⟨q1, q2⟩
      exact okp_some (Or.inr ⟨fst_all a3, rfl, q1, q2⟩)
    · have hi6 := h6 i (by omega)
      rw [if_neg (nI_ge (by omega) (by omega)), g_ib (by omega) (by omega), g_ib (by omega) (by omega), g_ib (by omega) (by omega), nI_clamp (by omega), g.1 90 i (by unfold PW; omega), h2 i (by omega), h0'.1.2.2.1, nl_48, nl_1, nI_add, pk_sub (by have := (okF_of hO.1).2.2.2.1; omega), p_isIn, Option.bind_some]
      simp (disch := omega) only [nI_ltI]
      by_cases gg : gdc k (inp i) = true
      · have := gd_t gg
        have e2 : (if inp i < 48 then nI 0 else if 48 + k - 1 < inp i then nI 0 else nI 1) = nI 1 := by
          rw [if_neg (by omega), if_neg (by omega)]
        rw [e2, if_neg (by decide), pk_sub (by omega), nI_add]
        refine ih (i + 1) _ (by omega) (by omega) (mfr_mi g (by unfold PW; omega)) (fun j hj => ?_) (fun j hj => ?_)
        · by_cases e : j = i
          · rw [e, gg]
            rfl
          · exact a3 j (by omega)
        · by_cases e : j = i
          · subst e
            rw [mi_eq]
          · rw [mi_ni e]
            exact a4 j (by omega)
      · have hb := gd_f gg
        have e := fst_at (p := fun j => !gdc k (inp j)) (n := fi) (i := i) (by omega) a3 (by simp only [gg]; rfl)
        have e2 : (if inp i < 48 then nI 0 else if 48 + k - 1 < inp i then nI 0 else nI 1) = nI 0 := by
          by_cases q : inp i < 48
          · rw [if_pos q]
          · rw [if_neg q, if_pos (by omega)]
        rw [e2, if_pos (by decide)]
        exact okp_some (Or.inl ⟨by omega, by rw [e], g⟩)
theorem CA_in {M : sm_M} {κ n k l : Nat} {s : Nat → Nat} {hc : Nat} {hl : Nat → Nat} {hs : Nat → Nat → Nat} {v : Sv} {fi fo : Nat} {inp out : Nat → Nat} (h : CA M κ n k l s hc hl hs (fi, inp, fo, out) v) : CA (sm_mi M 0 10 0) κ n k l s hc hl hs (0, inp, fo, out) v := by
  refine ⟨CF_c h.1 (fun x _ _ => mi_na (by omega)), CQ_c h.2.1 (fun x _ _ => mi_na (by omega)), ⟨mi_eq _ _ _ _, fun i hi => absurd hi (Nat.not_lt_zero i), ?_, fun i hi => ?_⟩, CV_c h.2.2.2 (fun j _ _ => mi_ni (by omega)) (mi_na (by omega)) (mi_na (by omega))⟩
  · rw [mi_ni (by omega)]
    exact h.2.2.1.2.2.1
  · rw [mi_na (by omega)]
    exact h.2.2.1.2.2.2 i hi
theorem MA_in {M : sm_M} {κ n k l : Nat} {s : Nat → Nat} {hc : Nat} {hl : Nat → Nat} {hs : Nat → Nat → Nat} {v : Sv} {fi fo : Nat} {inp out : Nat → Nat} (h : MA M κ n k l s hc hl hs (fi, inp, fo, out) v) : MA (sm_mi M 80 18 0) κ n k l s hc hl hs (0, inp, fo, out) v := by
  refine ⟨MF_c h.1 (fun j _ _ => mi_ni (by omega)) (fun x _ _ => mi_na (by omega)), MsQ_c h.2.1 (mi_ni (by omega)) (mi_ni (by omega)) (fun x _ _ => mi_na (by omega)), ⟨mi_eq _ _ _ _, fun i hi => absurd hi (Nat.not_lt_zero i), ?_, fun i hi => ?_⟩, MV_c h.2.2.2 (fun j _ _ => mi_ni (by omega)) (mi_na (by omega))⟩
  · rw [mi_ni (by omega)]
    exact h.2.2.1.2.2.1
  · rw [mi_na (by omega)]
    exact h.2.2.1.2.2.2 i hi
theorem q_10 : lq_10 IV := by
  rintro M ⟨κ, n, k, l, s, hc, hl, hs, b, v, hO, hC, hM⟩
  obtain ⟨fi, inp, fo, out⟩ := b
  have hfi : fi ≤ 240 := hO.2.2.1.1
  have hk := ok_k hO.1
  have h6 : ∀ i, i < fi → inp i < 65536 := hO.2.2.1.2.2.1
  have c2 : ∀ i, i < fi → M.1 76 i = nI (inp i) := hC.2.2.1.2.1
  have c1 : M.1 0 10 = nI fi := hC.2.2.1.1
  have hCi := CA_in hC
  have okb : okB (0, inp, fo, out) := ⟨Nat.zero_le _, hO.2.2.1.2.1, fun i hi => absurd hi (Nat.not_lt_zero i), hO.2.2.1.2.2.2⟩
  have cls := p_rd12 (F := 300) (M := sm_mi M 0 10 0) hk (by rw [mi_na (by omega)]; exact hC.1.1.2.2.1) (fun i hi => by rw [mi_na (by omega)]; exact c2 i hi) h6 hfi 300 0 (by omega) (by omega) (fun j hj => by omega)
  have mdl : ∀ M, MA M κ n k l s hc hl hs (fi, inp, fo, out) v → okp (f_X12_read 300 M) (fun r => mfr PA M r.2 ∧ ((fa_first (fun j => !gdc k (inp j)) fi < fi ∧ r.1 = (-100 : Int32) - nI (fa_first (fun j => !gdc k (inp j)) fi) ∧ MA r.2 κ n k l s hc hl hs (0, inp, fo, out) v) ∨ (fa_first (fun j => !gdc k (inp j)) fi = fi ∧ r.1 = nI fi ∧ MA r.2 κ n k fi (fun j => inp j - 48) (hup hc) (hcons l hl) (hcons s hs) (0, inp, fo, out) v))) := by
    intro M h
    unfold f_X12_read
    obtain ⟨M0, e00, h0, hz, g0⟩ := mz0 h; rw [e00]
    have e1 : M0.1 80 18 = nI fi := h0.2.2.1.1
    rw [e1]
    have hi := MA_in h0
    have e2 : ∀ i, i < fi → (sm_mi M0 80 18 0).1 90 i = nI (inp i) := fun i hi => by rw [mi_na (by omega)]; exact h0.2.2.1.2.1 i hi
    have gA : mfr PA M (sm_mi M0 80 18 0) := mfr_mi (mfr_w g0 (fun _ _ h => PQ_A (PR_Q h))) (by unfold PA; omega)
    refine okp_mono (p_mrd (b := (0, inp, fo, out)) ⟨hO.1, hO.2.1, okb, hO.2.2.2⟩ hi e2 h6 hfi 300 0 _ (by omega) (by omega) mfr_refl (fun j hj => by omega) (fun j hj => by omega)) ?_
    rintro r (⟨r1, r2, r3⟩ | ⟨r1, r2, r3, r4⟩)
    · exact ⟨mfr_tr gA (mfr_w r3 (fun _ _ h => PQ_A (PR_Q (PW_R h)))), Or.inl ⟨r1, r2, MA_w hi r3⟩⟩
    · exact ⟨mfr_tr gA (mfr_w r4 (fun _ _ h => PQ_A (PZ_Q h))), Or.inr ⟨r1, r2, MA_q hi (mfr_w r4 (fun _ _ => PZ_Q)) r3⟩⟩
  by_cases hb : fa_first (fun j => !gdc k (inp j)) fi < fi
  · refine lp_d_g (b' := (0, inp, fo, out)) 300 300 ((-100 : Int32) - nI (fa_first (fun j => !gdc k (inp j)) fi)) hM ⟨hO.1, hO.2.1, okb, hO.2.2.2⟩ ?_ (fun M h => ?_)
    · show okp (f_X11_read 300 M) _
      unfold f_X11_read
      rw [c1]
      rw [if_pos hb] at cls
      refine ⟨_, cls, rfl, hCi, fun a ha => mi_na (by omega)⟩
    · refine okp_mono (mdl M h) ?_
      rintro r ⟨r1, ⟨-, r2, r3⟩ | ⟨r2, -⟩⟩
      · exact ⟨r2, r3, r1⟩
      · omega
  · have hall : ∀ i, i < fi → 48 ≤ inp i ∧ inp i < 48 + k := fun i hi => by
      have e : fa_first (fun j => !gdc k (inp j)) fi = fi := Nat.le_antisymm (fa_first_le _ _) (Nat.le_of_not_lt hb)
      have := fa_first_no (fun j => !gdc k (inp j)) fi i (by omega)
      exact gd_t (by simpa using this)
    refine lp_d_g (b' := (0, inp, fo, out)) (l' := fi) (s' := fun j => inp j - 48) (hc' := hup hc) (hl' := hcons l hl) (hs' := hcons s hs) 300 300 (nI fi) hM ⟨hO.1, okQ_rec hO.2.1 hfi (fun i hi => by have := hall i hi; omega), okb, hO.2.2.2⟩ ?_ (fun M h => ?_)
    · show okp (f_X11_read 300 M) _
      unfold f_X11_read
      rw [c1]
      rw [if_neg hb] at cls
      show okp (f_X11_read_12 300 300 (nI fi) (nI 0) _) _
      rw [cls]
      refine okp_bind (cc_rem hO.2.1 hCi.2.1) ?_
      rintro ⟨a, M1⟩ ⟨q1, -, -, -, g1⟩
      refine okp_mono (p_rd69 (M0 := sm_mi M1 24 1 0) (inp := inp) (fun i hi => by rw [mi_na (by omega), fz_1 g1 (by omega), mi_na (by omega)]; exact c2 i hi) (fun i hi => (hall i hi).1) hfi 300 0 _ (by omega) (by omega) fz_refl ⟨mi_eq _ _ _ _, fun i hi => by omega⟩) ?_
      rintro r ⟨r1, r2, r3⟩
      have gq : cfq (sm_mi M 0 10 0) r.2 := cfq_tr (cfq_z g1 (by omega)) (cfq_tr (cfq_z (fz_mi (l := 24) (h := 25) (by omega) (by omega)) (by omega)) (cfq_z r3 (by omega)))
      refine ⟨r1, CA_q hCi gq ⟨r2, CH_f (CH_f (lo := 24) (hi := 25) q1.2 (fz_mi (by omega) (by omega)) (by omega)) r3 (by omega)⟩, fun a ha => ?_⟩
      rw [(gq a (by omega)).1, mi_na (by omega)]
    · refine okp_mono (mdl M h) ?_
      rintro r ⟨r1, ⟨r2, -⟩ | ⟨-, r2, r3⟩⟩
      · exact absurd r2 hb
      · exact ⟨r2, r3, r1⟩
