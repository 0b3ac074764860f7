/-! ===== longestRun, longestRunStart ===== -/
def csh (sh : Nat → Option Nat) (l p r : Nat) : Option Nat := sh ((p + r) % l)
def snb (sh : Nat → Option Nat) (l p r e : Nat) : Bool := (List.range r).any (fun q => decide (csh sh l p q = some e))
def badr (sh : Nat → Option Nat) (l p r : Nat) : Bool := match csh sh l p r with
  | none => true
  | some e => snb sh l p r e
def runl (sh : Nat → Option Nat) (l p : Nat) : Nat := fa_first (badr sh l p) l
def bI (b : Bool) : Int32 := if b = true then nI 1 else nI 0
theorem snb_iff {sh : Nat → Option Nat} {l p r e : Nat} : snb sh l p r e = true ↔ ∃ q, q < r ∧ csh sh l p q = some e := by
  unfold snb
  simp
theorem snb_s {sh : Nat → Option Nat} {l p r e : Nat} : snb sh l p (r + 1) e = (snb sh l p r e || decide (csh sh l p r = some e)) := by
  rw [Bool.eq_iff_iff, snb_iff, Bool.or_eq_true, snb_iff, decide_eq_true_eq]
  constructor
  · rintro ⟨q, h1, h2⟩
    by_cases e9 : q = r
    · subst e9; exact Or.inr h2
    · exact Or.inl ⟨q, by omega, h2⟩
  · rintro (⟨q, h1, h2⟩ | h)
    · exact ⟨q, by omega, h2⟩
    · exact ⟨r, by omega, h⟩
theorem bI_0 {b : Bool} : bI b = 0 ↔ b = false := by
  cases b <;> simp [bI] <;> decide
/-- the run from p, continued: both sides do this, at isSeen or isInRun -/
theorem run_set {sh : Nat → Option Nat} {l p r e E a : Nat} {M : sm_M} (hs : csh sh l p r = some e) (he : ∀ x, x < E → M.1 a x = bI (snb sh l p r x)) : ∀ x, x < E → (sm_mi M a e (nI 1)).1 a x = bI (snb sh l p (r + 1) x) := by
  intro x hx
  rw [snb_s, hs]
  by_cases q : x = e
  · subst q
    rw [mi_eq]
    simp [bI]
  · rw [mi_ni q, he x hx]
    have : ¬ (some e = some x) := fun h => q (by cases h; rfl)
    simp [this]
theorem p_mrun {M0 : sm_M} {κ n k l : Nat} {s : Nat → Nat} {hc : Nat} {hl : Nat → Nat} {hs : Nat → Nat → Nat} {b : Bf} {v : Sv} {p : Nat} (hO : Ok κ n k l s hc hl hs b v) (h0 : MA M0 κ n k l s hc hl hs b v) (h0l : 0 < l) (hp : p < 240) : ∀ (m r : Nat) (M : sm_M), l < m + r → r ≤ l → mfr PW M0 M → (∀ q, q < r → badr (shp κ n k s l) l p q = false) → (∀ e, e < 200 → M.1 93 e = bI (snb (shp κ n k s l) l p r e)) → okp (f_X12_runFrom_24 300 m (nI p) (nI r) M) (fun x => x.1 = nI (runl (shp κ n k s l) l p) ∧ mfr PW M0 x.2) := by
  have hl2 := hO.2.1.1
  intro m
  induction m with
  | zero => intro r M a b; omega
  | succ m ih =>
    intro r M a1 a2 g b1 b2
    have h0' := MA_w h0 g
    show okp (f_X12_runFrom_24b 300 (f_X12_runFrom_24 300 m) _ _ _) _
    unfold f_X12_runFrom_24b f_X12_runFrom_59
    rw [h0'.2.1.1, nl_m1, i1]
    by_cases h : l ≤ r
    · have e : r = l := by omega
      subst e
      rw [if_pos (nI_le h (by omega))]
      refine okp_some ⟨?_, g⟩
      unfold runl
      rw [fst_all b1]
    · have hm : (p + r) % l < l := Nat.mod_lt _ h0l
      rw [if_neg (nI_ge (by omega) (by omega)), g_nz h0l (by omega), nI_add, pk_rem (by omega) h0l (by omega)]
      refine okp_bind (mm_shows hO h0' h0l (by omega)) ?_
      rintro ⟨x, M1⟩ ⟨q1, g1⟩
      have g2 := mfr_W g (fz_w g1 (by omega) (by omega))
      have q1' : x = oI (csh (shp κ n k s l) l p r) := q1
      subst q1'
      have stop : badr (shp κ n k s l) l p r = true → runl (shp κ n k s l) l p = r := fun hb => fst_at (by omega) b1 hb
      cases hsh : csh (shp κ n k s l) l p r with
      | none =>
        refine okp_t rfl (okp_some ⟨?_, g2⟩)
        rw [stop (by unfold badr; rw [hsh])]
      | some e =>
        have h2 : e < 200 := sh200 hO.1 _ e hsh
        refine okp_f (fun q => (mN_eq (show e < 2 ^ 31 by omega)).mp q) ?_
        show okp (sm_g (sm_ib (nI e) 200) (if M1.1 93 (nI e).toNatClampNeg = 0 then sm_g (sm_ib (nI e) 200) (f_X12_runFrom_24 300 m (nI p) (nI (r + 1)) (sm_mi M1 93 (nI e).toNatClampNeg (vp_nar .boolean 1))) else some (nI r, M1))) _
        rw [g_ib h2 (by omega), g_ib h2 (by omega), nI_clamp (by omega), fz_1 g1 (a := 93) (by omega), b2 e h2, nl_1, vb_1]
        by_cases c : snb (shp κ n k s l) l p r e = false
        · refine okp_t (bI_0.mpr c) ?_
          refine ih (r + 1) _ (by omega) (by omega) (mfr_mi g2 (by unfold PW; omega)) (fun q hq => ?_) (run_set hsh (fun x hx => by rw [fz_1 g1 (a := 93) (by omega)]; exact b2 x hx))
          by_cases e9 : q = r
          · subst e9
            unfold badr
            rw [hsh]
            exact c
          · exact b1 q (by omega)
        · refine okp_f (fun q => c (bI_0.mp q)) (okp_some ⟨?_, g2⟩)
          rw [stop (by unfold badr; rw [hsh]; simpa using c)]
theorem p_clr {P : sm_M → Prop} {a E : Nat} {M0 : sm_M} : (∀ M, fz a (a + 1) M0 M → (∀ e, e < E → M.1 a e = nI 0) → P M) → ∀ (i : Nat) (M : sm_M), fz a (a + 1) M0 M → (∀ e, e < i → M.1 a e = nI 0) → E ≤ i → P M := fun h i M g b c => h M g (fun e he => b e (by omega))
theorem mm_run {M0 : sm_M} {κ n k l : Nat} {s : Nat → Nat} {hc : Nat} {hl : Nat → Nat} {hs : Nat → Nat → Nat} {b : Bf} {v : Sv} {p : Nat} (hO : Ok κ n k l s hc hl hs b v) (h0 : MA M0 κ n k l s hc hl hs b v) (h0l : 0 < l) (hp : p < 240) {M1 : sm_M} (g1 : mfr PW M0 M1) : okp (f_X12_runFrom 300 (nI p) M1) (fun x => x.1 = nI (runl (shp κ n k s l) l p) ∧ mfr PW M0 x.2) := by
  have hl2 := hO.2.1.1
  have key : ∀ (m i : Nat) (M : sm_M), 200 < m + i → i ≤ 200 → mfr PW M0 M → (∀ e, e < i → M.1 93 e = nI 0) → okp (f_X12_runFrom_2 300 m (nI p) (nI i) M) (fun x => x.1 = nI (runl (shp κ n k s l) l p) ∧ mfr PW M0 x.2) := by
    intro m
    induction m with
    | zero => intro i M a b; omega
    | succ m ih =>
      intro i M a1 a2 g b1
      show okp (f_X12_runFrom_2b 300 (f_X12_runFrom_2 300 m) _ _ _) _
      unfold f_X12_runFrom_2b
      rw [nl_200, nl_0, vb_0, i1]
      by_cases h : 200 ≤ i
      · rw [if_pos (nI_le h (by omega))]
        exact p_mrun hO h0 h0l hp 300 0 M (by omega) (by omega) g (fun q hq => by omega) (fun e he => by rw [b1 e (by omega)]; rfl)
      · rw [if_neg (nI_ge (by omega) (by omega)), g_ib (by omega) (by omega), nI_clamp (by omega)]
        refine ih (i + 1) _ (by omega) (by omega) (mfr_mi g (by unfold PW; omega)) (fun e he => ?_)
        by_cases q : e = i
        · subst q
          rw [mi_eq]
        · rw [mi_ni q]
          exact b1 e (by omega)
  exact key 300 0 M1 (by omega) (by omega) g1 (fun e he => by omega)
def bst (f : Nat → Nat) : Nat → Nat
  | 0 => 0
  | p + 1 => if p ≠ 0 ∧ f (bst f p) < f p then p else bst f p
theorem bst_lt (f : Nat → Nat) : ∀ p, 0 < p → bst f p < p
  | 0, h => absurd h (Nat.lt_irrefl 0)
  | 1, _ => by simp [bst]
  | p + 2, _ => by
    have ih := bst_lt f (p + 1) (by omega)
    rw [bst]
    split <;> omega
theorem mm_best {M0 : sm_M} {κ n k l : Nat} {s : Nat → Nat} {hc : Nat} {hl : Nat → Nat} {hs : Nat → Nat → Nat} {b : Bf} {v : Sv} (hO : Ok κ n k l s hc hl hs b v) (h0 : MA M0 κ n k l s hc hl hs b v) (h0l : 0 < l) : okp (f_X12_bestStart 300 M0) (fun x => x.1 = nI (bst (runl (shp κ n k s l) l) l) ∧ mfr PW M0 x.2) := by
  have hl2 := hO.2.1.1
  have rl : ∀ p, runl (shp κ n k s l) l p ≤ 240 := fun p => Nat.le_trans (fa_first_le _ _) hl2
  have key : ∀ (m p : Nat) (M : sm_M), l < m + p → 0 < p → p ≤ l → mfr PW M0 M → okp (f_X12_bestStart_4 300 m (nI (bst (runl (shp κ n k s l) l) p)) (nI p) M) (fun x => x.1 = nI (bst (runl (shp κ n k s l) l) l) ∧ mfr PW M0 x.2) := by
    intro m
    induction m with
    | zero => intro i M a b; omega
    | succ m ih =>
      intro p M a1 a2 a3 g
      have h0' := MA_w h0 g
      have hb := bst_lt (runl (shp κ n k s l) l) p a2
      show okp (f_X12_bestStart_4b 300 (f_X12_bestStart_4 300 m) _ _ _) _
      unfold f_X12_bestStart_4b f_X12_bestStart_30
      rw [h0'.2.1.1, i1]
      by_cases h : l ≤ p
      · have e : p = l := by omega
        subst e
        rw [if_pos (nI_le h (by omega))]
        exact okp_some ⟨rfl, g⟩
      · rw [if_neg (nI_ge (by omega) (by omega))]
        refine okp_bind (mm_run hO h0 h0l (p := p) (by omega) g) ?_
        rintro ⟨x, M1⟩ ⟨q1, g1⟩
        have q1' : x = _ := q1
        subst q1'
        refine okp_bind (mm_run hO h0 h0l (p := bst (runl (shp κ n k s l) l) p) (by omega) g1) ?_
        rintro ⟨y, M2⟩ ⟨q2, g2⟩
        have q2' : y = _ := q2
        subst q2'
        have ih1 := ih (p + 1) M2 (by omega) (by omega) (by omega) g2
        rw [bst] at ih1
        have r1 := rl p
        have r2 := rl (bst (runl (shp κ n k s l) l) p)
        by_cases c : runl (shp κ n k s l) l p ≤ runl (shp κ n k s l) l (bst (runl (shp κ n k s l) l) p)
        · refine okp_t (nI_le c (by omega)) ?_
          rw [if_neg (by omega)] at ih1
          exact ih1
        · refine okp_f (nI_ge (by omega) (by omega)) ?_
          rw [if_pos (by omega)] at ih1
          exact ih1
  exact key 300 1 M0 (by omega) (by omega) (by omega) mfr_refl
/-! the class: one run that moves on -/
theorem p_len {M0 : sm_M} {sh : Nat → Option Nat} {l E p : Nat} (h : lkp M0 sh l E) (hE : E ≤ 200) (hl : l ≤ 240) (hp : p < l) (hb : ∀ q e, sh q = some e → e < E) : ∀ (m r : Nat) (M : sm_M), l < m + r → r ≤ l → fz 56 57 M0 M → (∀ q, q < r → badr sh l p q = false) → (∀ e, e < E → M.1 56 e = bI (snb sh l p r e)) → okp (f_X10_lengthenRun_2 300 m (nI p) (nI r) M) (fun x => x.1 = nI (runl sh l p) ∧ fz 56 57 M0 x.2 ∧ ∀ e, e < E → x.2.1 56 e = bI (snb sh l p (runl sh l p) e)) := by
  intro m
  induction m with
  | zero => intro r M a b; omega
  | succ m ih =>
    intro r M a1 a2 g b1 b2
    show okp (f_X10_lengthenRun_2b 300 (f_X10_lengthenRun_2 300 m) _ _ _) _
    unfold f_X10_lengthenRun_2b f_X10_lengthenRun_40 f_X10_lengthenRun_59
    rw [fz_1 g (a := 52) (by omega), fz_1 g (a := 53) (by omega), h.1, nl_m1, i1, nI_add, nl_1, vb_1]
    by_cases c : l ≤ r
    · have e : r = l := by omega
      subst e
      rw [if_pos (nI_le c (by omega))]
      have : runl sh r p = r := fst_all b1
      rw [this]
      exact okp_some ⟨rfl, g, b2⟩
    · rw [if_neg (nI_ge (by omega) (by omega))]
      have go : ∀ y, y = (p + r) % l → okp (sm_g (sm_ib (nI y) 240) (if (M0.1 53 (nI y).toNatClampNeg) = mN then (some (nI r, M)) else (sm_g (sm_ib (M0.1 53 (nI y).toNatClampNeg) 200) (if (M.1 56 (M0.1 53 (nI y).toNatClampNeg).toNatClampNeg) = 0 then (sm_g (sm_ib (M0.1 53 (nI y).toNatClampNeg) 200) (f_X10_lengthenRun_2 300 m (nI p) (nI (r + 1)) (sm_mi M 56 (M0.1 53 (nI y).toNatClampNeg).toNatClampNeg (nI 1)))) else (some (nI r, M)))))) (fun x => x.1 = nI (runl sh l p) ∧ fz 56 57 M0 x.2 ∧ ∀ e, e < E → x.2.1 56 e = bI (snb sh l p (runl sh l p) e)) := by
        intro y hy
        have hyl : y < l := by rw [hy]; exact Nat.mod_lt _ (by omega)
        have hcs : sh y = csh sh l p r := by rw [hy]; rfl
        rw [g_ib (by omega) (by omega), nI_clamp (by omega), h.2.2.1 y hyl, hcs]
        have stop : badr sh l p r = true → runl sh l p = r := fun hb => fst_at (by omega) b1 hb
        cases hsh : csh sh l p r with
        | none =>
          refine okp_t rfl ?_
          have := stop (by unfold badr; rw [hsh])
          rw [this]
          exact okp_some ⟨rfl, g, b2⟩
        | some e =>
          have h2 : e < E := hb _ e hsh
          refine okp_f (fun q => (mN_eq (show e < 2 ^ 31 by omega)).mp q) ?_
          show okp (sm_g (sm_ib (nI e) 200) (if M.1 56 (nI e).toNatClampNeg = 0 then sm_g (sm_ib (nI e) 200) (f_X10_lengthenRun_2 300 m (nI p) (nI (r + 1)) (sm_mi M 56 (nI e).toNatClampNeg (nI 1))) else some (nI r, M))) _
          rw [g_ib (by omega) (by omega), g_ib (by omega) (by omega), nI_clamp (by omega), b2 e h2]
          by_cases d : snb sh l p r e = false
          · refine okp_t (bI_0.mpr d) ?_
            refine ih (r + 1) _ (by omega) (by omega) (fz_then g (by omega) (by omega)) (fun q hq => ?_) (run_set hsh b2)
            by_cases e9 : q = r
            · subst e9
              unfold badr
              rw [hsh]
              exact d
            · exact b1 q (by omega)
          · refine okp_f (fun q => d (bI_0.mp q)) ?_
            have := stop (by unfold badr; rw [hsh]; simpa using d)
            rw [this]
            exact okp_some ⟨rfl, g, b2⟩
      by_cases d : l ≤ p + r
      · rw [if_pos (nI_le d (by omega)), pk_sub d]
        refine go _ ?_
        rw [Nat.mod_eq_sub_mod d, Nat.mod_eq_of_lt (by omega)]
      · rw [if_neg (nI_ge (by omega) (by omega))]
        exact go _ (Nat.mod_eq_of_lt (by omega)).symm
theorem run_ok {sh : Nat → Option Nat} {l p r : Nat} (h : r < runl sh l p) : ∃ e, csh sh l p r = some e ∧ ∀ q, q < r → csh sh l p q ≠ some e := by
  have hb := fa_first_no (badr sh l p) l r h
  unfold badr at hb
  cases hc : csh sh l p r with
  | none => rw [hc] at hb; cases hb
  | some e =>
    rw [hc] at hb
    refine ⟨e, rfl, fun q hq h2 => ?_⟩
    have : snb sh l p r e = true := snb_iff.mpr ⟨q, hq, h2⟩
    simp only at hb
    rw [this] at hb
    cases hb
theorem csh_s {sh : Nat → Option Nat} {l p q : Nat} : csh sh l (p + 1) q = csh sh l p (q + 1) := by
  unfold csh
  congr 2
  omega
theorem run_next {sh : Nat → Option Nat} {l p r : Nat} (hr : r + 1 ≤ runl sh l p) : ∀ q, q < r → badr sh l (p + 1) q = false := by
  intro q hq
  obtain ⟨e, h1, h2⟩ := run_ok (sh := sh) (l := l) (p := p) (r := q + 1) (by omega)
  unfold badr
  rw [csh_s, h1]
  simp only
  rw [← Bool.not_eq_true, snb_iff]
  rintro ⟨x, hx, h3⟩
  rw [csh_s] at h3
  exact h2 (x + 1) (by omega) h3
theorem run_rem {sh : Nat → Option Nat} {l p r e : Nat} (hr : r + 1 = runl sh l p) (he : csh sh l p 0 = some e) (x : Nat) : snb sh l (p + 1) r x = (decide (x ≠ e) && snb sh l p (runl sh l p) x) := by
  rw [Bool.eq_iff_iff, Bool.and_eq_true, snb_iff, snb_iff, decide_eq_true_eq]
  constructor
  · rintro ⟨q, h1, h2⟩
    rw [csh_s] at h2
    refine ⟨fun h => ?_, q + 1, by omega, h2⟩
    subst h
    obtain ⟨e', h3, h4⟩ := run_ok (sh := sh) (l := l) (p := p) (r := q + 1) (by omega)
    rw [h2] at h3
    cases h3
    exact h4 0 (by omega) he
  · rintro ⟨h1, q, h2, h3⟩
    cases q with
    | zero =>
      rw [he] at h3
      cases h3
      exact absurd rfl h1
    | succ q => exact ⟨q, by omega, by rw [csh_s]; exact h3⟩
def rsz (f : Nat → Nat) (p : Nat) : Nat := if p = 0 then 0 else f (bst f p)
theorem p_fr37 {M0 : sm_M} {sh : Nat → Option Nat} {l E : Nat} (h : lkp M0 sh l E) (hE : E ≤ 200) (hl : l ≤ 240) (hb : ∀ q e, sh q = some e → e < E) : ∀ (m p r : Nat) (M : sm_M), l < m + p → p ≤ l → r ≤ l → lkp M sh l E → fz 52 57 M0 M → (∀ q, q < r → badr sh l p q = false) → (∀ e, e < E → M.1 56 e = bI (snb sh l p r e)) → M.1 52 6 = nI (rsz (runl sh l) p) → M.1 52 7 = nI (bst (runl sh l) p) → okp (f_X10_findRun_37 300 m (nI r) (nI p) M) (fun M' => M'.1 52 6 = nI (rsz (runl sh l) l) ∧ M'.1 52 7 = nI (bst (runl sh l) l) ∧ fz 52 57 M0 M') := by
  have rl : ∀ p, runl sh l p ≤ 240 := fun p => Nat.le_trans (fa_first_le _ _) hl
  intro m
  induction m with
  | zero => intro p r M a b; omega
  | succ m ih =>
    intro p r M a1 a2 a3 hk g b1 b2 b3 b4
    show okp (f_X10_findRun_37b 300 (f_X10_findRun_37 300 m) _ _ _) _
    unfold f_X10_findRun_37b
    rw [hk.1]
    by_cases c : l ≤ p
    · have e : p = l := by omega
      subst e
      rw [if_pos (nI_le c (by omega))]
      exact okp_some ⟨b3, b4, g⟩
    · rw [if_neg (nI_ge (by omega) (by omega))]
      refine okp_bind (p_len hk hE hl (by omega) hb 300 r M (by omega) a3 fz_refl b1 b2) ?_
      rintro ⟨x, M1⟩ ⟨q1, g1, q2⟩
      have q1' : x = _ := q1
      subst q1'
      have r1 := rl p
      have hk1 : ∀ M2, (∀ j, j < 6 → M2.1 52 j = M1.1 52 j) → (∀ a, 53 ≤ a → a < 56 → M2.1 a = M1.1 a) → lkp M2 sh l E := fun M2 e1 e2 => by
        unfold lkp
        rw [e1 4 (by omega), e1 5 (by omega), e2 53 (by omega) (by omega), e2 54 (by omega) (by omega), e2 55 (by omega) (by omega), fz_1 g1 (a := 52) (by omega), fz_1 g1 (a := 53) (by omega), fz_1 g1 (a := 54) (by omega), fz_1 g1 (a := 55) (by omega)]
        exact hk
      have tail : ∀ M2, fz 52 57 M0 M2 → (∀ j, j < 6 → M2.1 52 j = M1.1 52 j) → (∀ a, 53 ≤ a → a < 57 → M2.1 a = M1.1 a) → M2.1 52 6 = nI (rsz (runl sh l) (p + 1)) → M2.1 52 7 = nI (bst (runl sh l) (p + 1)) → okp (f_X10_findRun_70 300 (f_X10_findRun_37 300 m) (nI (runl sh l p)) (nI p) M2) (fun M' => M'.1 52 6 = nI (rsz (runl sh l) l) ∧ M'.1 52 7 = nI (bst (runl sh l) l) ∧ fz 52 57 M0 M') := by
        intro M2 gz e1 e2 e3 e4
        have hk2 := hk1 M2 e1 (fun a x y => e2 a x (by omega))
        unfold f_X10_findRun_70 f_X10_findRun_89
        rw [nl_0, vb_0, i1]
        by_cases d : runl sh l p = 0
        · rw [if_pos (by rw [d]; decide), d]
          refine ih (p + 1) 0 M2 (by omega) (by omega) (by omega) hk2 gz (fun q hq => by omega) (fun e he => ?_) e3 e4
          rw [e2 56 (by omega) (by omega), q2 e he, d]
          rfl
        · obtain ⟨e, h1, -⟩ := run_ok (sh := sh) (l := l) (p := p) (r := 0) (by omega)
          have h1' : sh p = some e := by
            unfold csh at h1
            rwa [Nat.add_zero, Nat.mod_eq_of_lt (by omega)] at h1
          have h2 := hb p e h1'
          have e9 : runl sh l p = (runl sh l p - 1) + 1 := by omega
          rw [if_neg (show ¬ nI (runl sh l p) ≤ nI 0 from nI_nle (by omega) (by omega)), g_ib (by omega) (by omega), nI_clamp (by omega), hk2.2.2.1 p (by omega), h1']
          show okp (sm_g (sm_ib (nI e) 200) (f_X10_findRun_37 300 m (nI (runl sh l p) + (-1)) (nI (p + 1)) (sm_mi M2 56 (nI e).toNatClampNeg (nI 0)))) _
          have e10 : nI (runl sh l p) + (-1) = nI (runl sh l p - 1) := by
            conv => lhs; rw [e9]
            exact pk_m1 _
          have hlq : runl sh l p ≤ l := fa_first_le _ _
          rw [g_ib (by omega) (by omega), nI_clamp (by omega), e10]
          refine ih (p + 1) (runl sh l p - 1) _ (by omega) (by omega) (by omega) (hk1 _ (fun j hj => by rw [mi_na (by omega)]; exact e1 j hj) (fun a x y => by rw [mi_na (by omega)]; exact e2 a x (by omega))) (fz_then gz (by omega) (by omega)) (run_next (by omega)) (fun x hx => ?_) (by rw [mi_na (by omega)]; exact e3) (by rw [mi_na (by omega)]; exact e4)
          rw [run_rem e9.symm h1]
          by_cases q : x = e
          · subst q
            rw [mi_eq]
            simp [bI]
          · rw [mi_ni q, e2 56 (by omega) (by omega), q2 x hx]
            simp [q]
      have gm : fz 52 57 M0 M1 := fz_tr g g1 (by omega) (by omega) (by omega) (by omega)
      have e6 : M1.1 52 6 = nI (rsz (runl sh l) p) := by rw [fz_1 g1 (by omega)]; exact b3
      have e7 : M1.1 52 7 = nI (bst (runl sh l) p) := by rw [fz_1 g1 (by omega)]; exact b4
      show okp (if nI (runl sh l p) ≤ M1.1 52 6 then _ else _) _
      have rs : rsz (runl sh l) p ≤ 240 := by unfold rsz; split; omega; exact rl _
      rw [e6]
      by_cases d : runl sh l p ≤ rsz (runl sh l) p
      · refine okp_t (nI_le d (by omega)) ?_
        have e8 : bst (runl sh l) (p + 1) = bst (runl sh l) p := by
          rw [bst, if_neg]
          rintro ⟨x1, x2⟩
          unfold rsz at d
          rw [if_neg x1] at d
          omega
        refine tail M1 gm (fun j _ => rfl) (fun a _ _ => rfl) ?_ (by rw [e8]; exact e7)
        rw [e6]
        unfold rsz at d ⊢
        rw [if_neg (show ¬ p + 1 = 0 by omega), e8]
        by_cases z : p = 0
        · rw [if_pos z] at d ⊢
          have : bst (runl sh l) p = p := by rw [z]; rfl
          rw [this]
          congr 1
          omega
        · rw [if_neg z]
      · refine okp_f (nI_ge (by omega) (by omega)) ?_
        have e8 : bst (runl sh l) (p + 1) = p := by
          rw [bst]
          by_cases z : p = 0
          · rw [if_neg (fun q => q.1 z), z]
            rfl
          · rw [if_pos]
            refine ⟨z, ?_⟩
            unfold rsz at d
            rw [if_neg z] at d
            omega
        refine tail (sm_mi (sm_mi M1 52 6 (nI (runl sh l p))) 52 7 (nI p)) (fz_then (fz_then gm (by omega) (by omega)) (by omega) (by omega)) (fun j hj => by rw [mi_ni (by omega), mi_ni (by omega)]) (fun a x y => by rw [mi_na (by omega), mi_na (by omega)]) ?_ ?_
        · rw [mi_ni (by omega), mi_eq]
          unfold rsz
          rw [if_neg (show ¬ p + 1 = 0 by omega), e8]
        · rw [mi_eq, e8]
theorem cc_run {M0 : sm_M} {sh : Nat → Option Nat} {l E : Nat} (h : lkp M0 sh l E) (hE : E ≤ 200) (hl : l ≤ 240) (hb : ∀ q e, sh q = some e → e < E) : okp (f_X10_findRun 300 M0) (fun M' => M'.1 52 6 = nI (rsz (runl sh l) l) ∧ M'.1 52 7 = nI (bst (runl sh l) l) ∧ fz 52 57 M0 M') := by
  have key : ∀ (m i : Nat) (M : sm_M), E < m + i → i ≤ E → fz 56 57 M0 M → (∀ e, e < i → M.1 56 e = nI 0) → okp (f_X10_findRun_2 300 m (nI i) M) (fun M' => M'.1 52 6 = nI (rsz (runl sh l) l) ∧ M'.1 52 7 = nI (bst (runl sh l) l) ∧ fz 52 57 M0 M') := by
    intro m
    induction m with
    | zero => intro i M a b; omega
    | succ m ih =>
      intro i M a1 a2 g b1
      show okp (f_X10_findRun_2b 300 (f_X10_findRun_2 300 m) _ _) _
      unfold f_X10_findRun_2b
      rw [fz_1 g (a := 52) (by omega), h.2.1, nl_0, vb_0, i1]
      by_cases c : E ≤ i
      · rw [if_pos (nI_le c (by omega))]
        have hk : lkp (sm_mi (sm_mi M 52 6 (nI 0)) 52 7 (nI 0)) sh l E := by
          unfold lkp
          rw [mi_ni (by omega), mi_ni (by omega), mi_ni (by omega), mi_ni (by omega), mi_na (by omega), mi_na (by omega), mi_na (by omega), mi_na (by omega), mi_na (by omega), mi_na (by omega), fz_1 g (a := 52) (by omega), fz_1 g (a := 53) (by omega), fz_1 g (a := 54) (by omega), fz_1 g (a := 55) (by omega)]
          exact h
        refine p_fr37 h hE hl hb 300 0 0 _ (by omega) (by omega) (by omega) hk (fz_then (fz_then (fz_w g (by omega) (by omega)) (by omega) (by omega)) (by omega) (by omega)) (fun q hq => by omega) (fun e he => ?_) ?_ ?_
        · rw [mi_na (by omega), mi_na (by omega), b1 e (by omega)]
          rfl
        · rw [mi_ni (by omega), mi_eq]
          rfl
        · rw [mi_eq]
          rfl
      · rw [if_neg (nI_ge (by omega) (by omega)), g_ib (by omega) (by omega), nI_clamp (by omega)]
        refine ih (i + 1) _ (by omega) (by omega) (fz_then g (by omega) (by omega)) (fun e he => ?_)
        by_cases q : e = i
        · subst q
          rw [mi_eq]
        · rw [mi_ni q]
          exact b1 e (by omega)
  exact key 300 0 M0 (by omega) (by omega) fz_refl (fun e he => by omega)
theorem q_21 : lq_21 IV := by
  rintro M ⟨κ, n, k, l, s, hc, hl, hs, b, v, hO, hC, hM⟩
  have hb : ∀ q e, shp κ n k s l q = some e → e < (els κ n k).length := fun _ _ h => (shp_lt hO.1 h).1
  have hl2 := hO.2.1.1
  refine lp_d_r 300 300 (nI (rsz (runl (shp κ n k s l) l) l)) hO hC hM ?_ (fun M h => ?_)
  · show okp (f_X11_longestRun 300 M) _
    unfold f_X11_longestRun
    refine okp_bind (cc_look hO hC) ?_
    rintro M1 ⟨q1, g1⟩
    refine okp_bind (cc_run q1 (els_ok hO.1).2.1 hl2 hb) ?_
    rintro M2 ⟨r1, r2, g2⟩
    exact okp_some ⟨r1, cfr_tr (cfr_z g1 (by omega)) (cfr_z g2 (by omega))⟩
  · show okp (f_X12_longestRun 300 M) _
    unfold f_X12_longestRun f_X12_longestRun_24
    obtain ⟨M0, e00, h0, hz, g0⟩ := mz0 h; rw [e00]
    rw [h0.2.1.1]
    by_cases z : l = 0
    · rw [if_pos (by rw [z]; decide)]
      refine okp_some ⟨?_, g0⟩
      unfold rsz
      rw [if_pos z]
      rfl
    · rw [if_neg (nI_ne0 (by omega) (by omega))]
      refine okp_bind (mm_best hO h0 (by omega)) ?_
      rintro ⟨x, M1⟩ ⟨q1, g1⟩
      have q1' : x = _ := q1
      subst q1'
      have hbl := bst_lt (runl (shp κ n k s l) l) l (by omega)
      refine okp_bind (mm_run hO h0 (by omega) (p := bst (runl (shp κ n k s l) l) l) (by omega) g1) ?_
      rintro ⟨y, M2⟩ ⟨q2, g2⟩
      refine okp_some ⟨?_, mfr_tr g0 (mfr_w g2 (fun _ _ => PW_R))⟩
      unfold rsz
      rw [if_neg z]
      exact q2
theorem q_22 : lq_22 IV := by
  rintro M ⟨κ, n, k, l, s, hc, hl, hs, b, v, hO, hC, hM⟩
  have hb : ∀ q e, shp κ n k s l q = some e → e < (els κ n k).length := fun _ _ h => (shp_lt hO.1 h).1
  have hl2 := hO.2.1.1
  by_cases z : l = 0
  · refine Or.inr (lp_x_r 0 0 hO hC hM ?_ (fun M h => ?_))
    · show okp (f_X11_longestRunStart 0 M) _
      unfold f_X11_longestRunStart f_X11_needSequence
      rw [hC.2.1.1.1, z, if_pos (by decide), bx_r]
      exact okp_some ⟨rfl, cfr_refl⟩
    · show okp (f_X12_longestRunStart 0 M) _
      unfold f_X12_longestRunStart f_X12_longestRunStart_24
      obtain ⟨M0, e00, h0, hz, g0⟩ := mz0 h; rw [e00]
      rw [h0.2.1.1, z, if_pos (by decide), p_fail]
      exact okp_some (mm_x g0)
  · refine Or.inl (lp_r_r 300 300 (nI (bst (runl (shp κ n k s l) l) l)) hO hC hM ?_ (fun M h => ?_))
    · show okp (f_X11_longestRunStart 300 M) _
      unfold f_X11_longestRunStart f_X11_needSequence
      rw [hC.2.1.1.1, if_neg (nI_ne0 (by omega) (by omega)), bx_l]
      refine okp_bind (cc_look hO hC) ?_
      rintro M1 ⟨q1, g1⟩
      refine okp_bind (cc_run q1 (els_ok hO.1).2.1 hl2 hb) ?_
      rintro M2 ⟨r1, r2, g2⟩
      exact okp_some ⟨by rw [r2], cfr_tr (cfr_z g1 (by omega)) (cfr_z g2 (by omega))⟩
    · show okp (f_X12_longestRunStart 300 M) _
      unfold f_X12_longestRunStart f_X12_longestRunStart_24
      obtain ⟨M0, e00, h0, hz, g0⟩ := mz0 h; rw [e00]
      rw [h0.2.1.1, if_neg (nI_ne0 (by omega) (by omega))]
      refine okp_bind (mm_best hO h0 (by omega)) ?_
      rintro r q
      exact okp_some (mm_w g0 hz q)
