/-! ===== extendGreedily ===== -/
def shl (κ n k : Nat) (w : Nat → Nat) (p : Nat) : Option Nat := shw κ n k (fun i => w (p + i))
def up1 (w : Nat → Nat) (L t : Nat) : Nat → Nat := fun i => if i = L then t else w i
def gfd (κ n k : Nat) (w : Nat → Nat) (L : Nat) (U : Nat → Bool) : Nat → Option (Nat × Nat)
  | 0 => none
  | t + 1 => match shl κ n k (up1 w L t) (L + 1 - n) with
    | none => gfd κ n k w L U t
    | some e => if U e = true then gfd κ n k w L U t else some (t, e)
def addu (U : Nat → Bool) (e x : Nat) : Bool := decide (x = e) || U x
def grun (κ n k : Nat) : Nat → Nat → (Nat → Nat) → (Nat → Bool) → Nat × (Nat → Nat)
  | 0, L, w, _ => (L, w)
  | f + 1, L, w, U => if 240 ≤ L then (L, w) else if L + 1 < n then grun κ n k f (L + 1) (up1 w L 0) U else match gfd κ n k w L U k with
    | none => (L, w)
    | some (t, e) => grun κ n k f (L + 1) (up1 w L t) (addu U e)
theorem gfd_lt {κ n k : Nat} {w : Nat → Nat} {L : Nat} {U : Nat → Bool} : ∀ {t t' e : Nat}, gfd κ n k w L U t = some (t', e) → t' < t ∧ shl κ n k (up1 w L t') (L + 1 - n) = some e
  | 0, t', e, h => by cases h
  | t + 1, t', e, h => by
    rw [gfd] at h
    cases hs : shl κ n k (up1 w L t) (L + 1 - n) with
    | none =>
      rw [hs] at h
      have := gfd_lt h
      exact ⟨by omega, this.2⟩
    | some x =>
      rw [hs] at h
      simp only at h
      by_cases c : U x = true
      · rw [if_pos c] at h
        have := gfd_lt h
        exact ⟨by omega, this.2⟩
      · rw [if_neg c] at h
        cases h
        exact ⟨by omega, hs⟩
theorem up1_lt {w : Nat → Nat} {L t k : Nat} (hw : ∀ i, i < L → w i < k) (ht : t < k) : ∀ i, i < L + 1 → up1 w L t i < k := fun i hi => by
  unfold up1
  by_cases e : i = L
  · rw [if_pos e]; exact ht
  · rw [if_neg e]; exact hw i (by omega)
theorem grun_ok {κ n k : Nat} (hk : 1 ≤ k) : ∀ (f L : Nat) (w : Nat → Nat) (U : Nat → Bool), L ≤ 240 → (∀ i, i < L → w i < k) → L ≤ (grun κ n k f L w U).1 ∧ (grun κ n k f L w U).1 ≤ 240 ∧ ∀ i, i < (grun κ n k f L w U).1 → (grun κ n k f L w U).2 i < k
  | 0, L, w, U, h1, h2 => ⟨Nat.le_refl _, h1, h2⟩
  | f + 1, L, w, U, h1, h2 => by
    rw [grun]
    by_cases c : 240 ≤ L
    · rw [if_pos c]
      exact ⟨Nat.le_refl _, h1, h2⟩
    · rw [if_neg c]
      by_cases d : L + 1 < n
      · rw [if_pos d]
        have := grun_ok (κ := κ) (n := n) hk f (L + 1) (up1 w L 0) U (by omega) (up1_lt h2 hk)
        exact ⟨by omega, this.2⟩
      · rw [if_neg d]
        cases hg : gfd κ n k w L U k with
        | none => exact ⟨Nat.le_refl _, h1, h2⟩
        | some te =>
          obtain ⟨t, e⟩ := te
          have := grun_ok (κ := κ) (n := n) hk f (L + 1) (up1 w L t) (addu U e) (by omega) (up1_lt h2 (gfd_lt hg).1)
          exact ⟨by show L ≤ (grun κ n k f (L + 1) (up1 w L t) (addu U e)).1; omega, this.2⟩
theorem shl_cyc {κ n k l p : Nat} {w : Nat → Nat} (h : p + n ≤ l) : shp κ n k w l p = shl κ n k w p := by
  unfold shp shl
  apply shw_cong
  intro i hi
  unfold cyw
  rw [Nat.mod_eq_of_lt (by omega)]
theorem shl_lt {κ n k p e : Nat} {w : Nat → Nat} (ho : okF κ n k = true) (h : shl κ n k w p = some e) : e < 200 := by
  have := shw_lt h
  have := (els_ok ho).2.1
  omega
theorem shl_cong {κ n k p : Nat} {w w' : Nat → Nat} (h : ∀ i, i < p + n → w i = w' i) : shl κ n k w p = shl κ n k w' p := by
  unfold shl
  apply shw_cong
  intro i hi
  exact h _ (by omega)
theorem used_set {U : Nat → Bool} {e a : Nat} {M : sm_M} (h : ∀ x, x < 200 → M.1 a x = bI (U x)) : ∀ x, x < 200 → (sm_mi M a e (nI 1)).1 a x = bI (addu U e x) := by
  intro x hx
  unfold addu
  by_cases q : x = e
  · subst q
    rw [mi_eq]
    simp [bI]
  · rw [mi_ni q, h x hx]
    simp [q]
/-! the class -/
def gfz (M M' : sm_M) : Prop := ∀ a, a ≠ 24 → a ≠ 25 → a ≠ 63 → M'.1 a = M.1 a ∧ M'.2 a = M.2 a
theorem gfz_tr {M M1 M2 : sm_M} (h1 : gfz M M1) (h2 : gfz M1 M2) : gfz M M2 := fun a x y z => ⟨(h2 a x y z).1.trans (h1 a x y z).1, (h2 a x y z).2.trans (h1 a x y z).2⟩
theorem gfz_24 {M M' : sm_M} (h : fz 24 26 M M') : gfz M M' := fun a x y z => h a (by omega)
theorem gfz_63 {M M' : sm_M} (h : fz 63 64 M M') : gfz M M' := fun a x y z => h a (by omega)
theorem gfz_refl {M : sm_M} : gfz M M := fun _ _ _ _ => ⟨rfl, rfl⟩
theorem famp_g {M M' : sm_M} {κ n k : Nat} (h : famp M κ n k) (g : gfz M M') : famp M' κ n k := by
  unfold famp
  rw [(g 1 (by omega) (by omega) (by omega)).1]
  exact ⟨h.1, h.2.1, h.2.2.1, codp_c h.2.2.2 (by rw [(g 2 (by omega) (by omega) (by omega)).1]) (g 3 (by omega) (by omega) (by omega)).1⟩
def gok (M' : sm_M) (x : Int32) (L : Nat) (w : Nat → Nat) (U : Nat → Bool) (o : Option (Nat × Nat)) : Prop := match o with
  | none => x = nI 0 ∧ rowp M' 24 L w ∧ ∀ e, e < 200 → M'.1 63 e = bI (U e)
  | some (t, e) => x = nI 1 ∧ rowp M' 24 (L + 1) (up1 w L t) ∧ ∀ x, x < 200 → M'.1 63 x = bI (addu U e x)
theorem p_ebo {κ n k L : Nat} {w : Nat → Nat} {U : Nat → Bool} {M0 : sm_M} (ho : okF κ n k = true) (hf : famp M0 κ n k) (hL : L < 240) (hn : n ≤ L + 1) (hw : ∀ i, i < L → w i < k) : ∀ (m t : Nat) (M : sm_M), t < m → t ≤ k → gfz M0 M → rowp M 24 L w → (∀ e, e < 200 → M.1 63 e = bI (U e)) → okp (f_X5_extendByOne_27 300 24 m (nI t - nI 1) M) (fun r => gok r.2 r.1 L w U (gfd κ n k w L U t) ∧ gfz M0 r.2) := by
  obtain ⟨o1, o2, o3, o4, o5, -, -⟩ := okF_of ho
  intro m
  induction m with
  | zero => intro t M a; omega
  | succ m ih =>
    intro t M a1 a2 g b1 b2
    show okp (f_X5_extendByOne_27b 300 24 (f_X5_extendByOne_27 300 24 m) _ _) _
    unfold f_X5_extendByOne_27b f_X5_extendByOne_78
    cases t with
    | zero =>
      rw [if_pos (pk_sneg (by omega) (by omega))]
      exact okp_some ⟨⟨rfl, b1, b2⟩, g⟩
    | succ t =>
      rw [pk_sub (by omega), Nat.add_sub_cancel, if_neg (nI_pos (by omega))]
      refine okp_bind (p_push b1 hL) ?_
      rintro M1 ⟨q1, g1, q3⟩
      have gg := gfz_tr g (gfz_24 g1)
      have hf1 := famp_g hf gg
      have hw1 : ∀ i, i < L + 1 → up1 w L t i < 8 := fun i hi => Nat.lt_of_lt_of_le (up1_lt hw (by omega) i hi) o5
      rw [q1.1, hf1.2.1, pk_sub hn, p_shown ho hf1 q1 (by omega) (by omega) hw1 (by omega) (by omega), Option.bind_some, nl_m1, nl_1, vb_1]
      have e1 : shp κ n k (fun i => if i = L then t else w i) (L + 1) (L + 1 - n) = shl κ n k (up1 w L t) (L + 1 - n) := shl_cyc (by omega)
      rw [e1]
      have u1 : ∀ e, e < 200 → M1.1 63 e = bI (U e) := fun e he => by rw [fz_1 g1 (by omega)]; exact b2 e he
      have back : okp (f_X5_extendByOne_27 300 24 m (nI t + (-1)) (sm_mi M1 24 1 (nI (L + 1) - nI 1))) (fun r => gok r.2 r.1 L w U (gfd κ n k w L U t) ∧ gfz M0 r.2) := by
        have e2 : nI t + (-1) = nI t - nI 1 := by
          rw [Int32.sub_eq_add_neg]
          rfl
        rw [e2, show nI (L + 1) - nI 1 = nI L from nI_pred L]
        refine ih t _ (by omega) (by omega) (gfz_tr gg (gfz_24 (fz_mi (by omega) (by omega)))) ⟨mi_eq _ _ _ _, fun i hi => ?_⟩ (fun e he => by rw [mi_na (by omega)]; exact u1 e he)
        rw [mi_na (by omega), q3 i hi]
        exact b1.2 i hi
      cases hs : shl κ n k (up1 w L t) (L + 1 - n) with
      | none =>
        refine okp_t rfl ?_
        rw [gfd, hs]
        exact back
      | some e =>
        have h2 := shl_lt ho hs
        refine okp_f (fun q => (mN_eq (show e < 2 ^ 31 by omega)).mp q) ?_
        show okp (sm_g (sm_ib (nI e) 200) (if M1.1 63 (nI e).toNatClampNeg = 0 then sm_g (sm_ib (nI e) 200) (some (nI 1, sm_mi M1 63 (nI e).toNatClampNeg (nI 1))) else (f_X5_extendByOne_27 300 24 m (nI t + (-1)) (sm_mi M1 24 1 (nI (L + 1) - nI 1))))) _
        rw [g_ib h2 (by omega), g_ib h2 (by omega), nI_clamp (by omega), u1 e h2, gfd, hs]
        simp only
        by_cases c : U e = true
        · rw [if_pos c]
          refine okp_f (fun q => ?_) back
          have := bI_0.mp q
          rw [c] at this
          cases this
        · rw [if_neg c]
          refine okp_t (bI_0.mpr (by simpa using c)) (okp_some ⟨⟨rfl, rowp_c q1 (by rw [mi_na (by omega)]) (by rw [mi_na (by omega)]), used_set u1⟩, gfz_tr gg (gfz_63 (fz_mi (by omega) (by omega)))⟩)
theorem p_ext {κ n k : Nat} {M0 : sm_M} (ho : okF κ n k = true) (hf : famp M0 κ n k) : ∀ (m f L : Nat) (w : Nat → Nat) (U : Nat → Bool) (M : sm_M), 241 < m + L → 240 < f + L → L ≤ 240 → (∀ i, i < L → w i < k) → gfz M0 M → rowp M 24 L w → (∀ e, e < 200 → M.1 63 e = bI (U e)) → okp (f_X5_extend_14 300 24 m (nI 1) (nI L) M) (fun M' => rowp M' 24 (grun κ n k f L w U).1 (grun κ n k f L w U).2 ∧ gfz M0 M') := by
  obtain ⟨o1, o2, o3, o4, o5, -, -⟩ := okF_of ho
  intro m
  induction m with
  | zero => intro f L w U M a; omega
  | succ m ih =>
    intro f L w U M a1 a2 a3 hw g b1 b2
    cases f with
    | zero => omega
    | succ f =>
      have hf1 := famp_g hf g
      show okp (f_X5_extend_14b 300 24 (f_X5_extend_14 300 24 m) _ _ _) _
      unfold f_X5_extend_14b f_X5_extend_39
      rw [nl_240, grun]
      by_cases c : 240 ≤ L
      · rw [if_pos (nI_le c (by omega)), if_pos c]
        exact okp_some ⟨b1, g⟩
      · rw [if_neg (nI_ge (by omega) (by omega)), if_neg c, if_neg (by decide), i1]
        unfold f_X5_extendByOne
        rw [b1.1, hf1.2.1, hf1.2.2.1, nl_1, nI_add]
        by_cases d : L + 1 < n
        · rw [if_neg (nI_ge d (by omega)), if_pos d]
          have hp : okp ((f_X7_push 300 24 (0 : Int32) M).bind fun q2 => some (nI 1, q2)) (fun r : Int32 × sm_M => r.1 = nI 1 ∧ rowp r.2 24 (L + 1) (up1 w L 0) ∧ (∀ e, e < 200 → r.2.1 63 e = bI (U e)) ∧ gfz M0 r.2) := by
            rw [nl_0]
            refine okp_bind (p_push b1 (by omega)) ?_
            rintro M1 ⟨q1, g1, -⟩
            exact okp_some ⟨rfl, q1, fun e he => by rw [fz_1 g1 (by omega)]; exact b2 e he, gfz_tr g (gfz_24 g1)⟩
          refine okp_bind hp ?_
          rintro ⟨x, M1⟩ ⟨q1, q2, q3, q4⟩
          have q1' : x = nI 1 := q1
          subst q1'
          exact ih f (L + 1) (up1 w L 0) U M1 (by omega) (by omega) (by omega) (up1_lt hw o4) q4 q2 q3
        · rw [if_pos (nI_le (by omega) (by omega)), if_neg d]
          refine okp_bind (p_ebo ho hf (by omega) (by omega) hw 300 k M (by omega) (by omega) g b1 b2) ?_
          rintro ⟨x, M1⟩ ⟨q1, q2⟩
          cases hg : gfd κ n k w L U k with
          | none =>
            rw [hg] at q1
            obtain ⟨q3, q4, q5⟩ := q1
            have q3' : x = nI 0 := q3
            subst q3'
            show okp (f_X5_extend_14 300 24 m (nI 0) (nI (L + 1)) M1) _
            cases m with
            | zero => omega
            | succ m =>
              show okp (f_X5_extend_14b 300 24 (f_X5_extend_14 300 24 m) _ _ _) _
              unfold f_X5_extend_14b f_X5_extend_39
              rw [if_pos (c := nI 0 = 0) (by decide), ite_self]
              exact okp_some ⟨q4, q2⟩
          | some te =>
            obtain ⟨t, e⟩ := te
            rw [hg] at q1
            obtain ⟨q3, q4, q5⟩ := q1
            have q3' : x = nI 1 := q3
            subst q3'
            exact ih f (L + 1) (up1 w L t) (addu U e) M1 (by omega) (by omega) (by omega) (up1_lt hw (gfd_lt hg).1) q2 q4 q5
def mkU (κ n k : Nat) (w : Nat → Nat) (c e : Nat) : Bool := (List.range c).any (fun p => decide (shl κ n k w p = some e))
theorem mkU_s {κ n k : Nat} {w : Nat → Nat} {c e : Nat} : mkU κ n k w (c + 1) e = (mkU κ n k w c e || decide (shl κ n k w c = some e)) := by
  unfold mkU
  rw [List.range_succ, List.any_append]
  simp
theorem mkU_set {κ n k : Nat} {w : Nat → Nat} {c e a : Nat} {M : sm_M} (hs : shl κ n k w c = some e) (h : ∀ x, x < 200 → M.1 a x = bI (mkU κ n k w c x)) : ∀ x, x < 200 → (sm_mi M a e (nI 1)).1 a x = bI (mkU κ n k w (c + 1) x) := by
  intro x hx
  rw [used_set h x hx, mkU_s, hs]
  unfold addu
  congr 1
  by_cases q : x = e
  · subst q
    simp
  · have : ¬ (some e = some x) := fun h => q (by cases h; rfl)
    simp [q, this]
theorem mkU_no {κ n k : Nat} {w : Nat → Nat} {c : Nat} (hs : shl κ n k w c = none) : ∀ x, mkU κ n k w (c + 1) x = mkU κ n k w c x := by
  intro x
  rw [mkU_s, hs]
  simp
theorem p_mkw {κ n k l : Nat} {s : Nat → Nat} {M0 : sm_M} (ho : okF κ n k = true) (hf : famp M0 κ n k) (hr : rowp M0 24 l s) (hl : l ≤ 240) (hs : ∀ i, i < l → s i < 8) : ∀ (m p : Nat) (M : sm_M), l + 1 - n < m + p → p ≤ l + 1 - n → fz 63 64 M0 M → (∀ e, e < 200 → M.1 63 e = bI (mkU κ n k s p e)) → okp (f_X5_markWindows_24 300 24 m (nI p) M) (fun M' => (∀ e, e < 200 → M'.1 63 e = bI (mkU κ n k s (l + 1 - n) e)) ∧ fz 63 64 M0 M') := by
  obtain ⟨o1, o2, o3, o4, o5, -, -⟩ := okF_of ho
  intro m
  induction m with
  | zero => intro p M a b; omega
  | succ m ih =>
    intro p M a1 a2 g b1
    have hf1 := famp_f hf g (by omega)
    have hr1 := rowp_f hr g (by omega)
    show okp (f_X5_markWindows_24b 300 24 (f_X5_markWindows_24 300 24 m) _ _) _
    unfold f_X5_markWindows_24b f_X5_markWindows_59
    rw [hr1.1, hf1.2.1, nI_add, nl_m1, nl_1, vb_1, nI_add]
    by_cases c : l < p + n
    · have e : p = l + 1 - n := by omega
      rw [if_pos (nI_lt c (by omega)), ← e]
      exact okp_some ⟨b1, g⟩
    · rw [if_neg (nI_nlt (by omega) (by omega)), p_shown ho hf1 hr1 (by omega) hl hs (by omega) (by omega), Option.bind_some, shl_cyc (by omega)]
      cases hsh : shl κ n k s p with
      | none =>
        refine okp_t rfl (ih (p + 1) M (by omega) (by omega) g (fun e he => ?_))
        rw [mkU_no hsh]
        exact b1 e he
      | some e =>
        have h2 := shl_lt ho hsh
        refine okp_f (fun q => (mN_eq (show e < 2 ^ 31 by omega)).mp q) ?_
        show okp (sm_g (sm_ib (nI e) 200) (f_X5_markWindows_24 300 24 m (nI (p + 1)) (sm_mi M 63 (nI e).toNatClampNeg (nI 1)))) _
        rw [g_ib h2 (by omega), nI_clamp (by omega)]
        exact ih (p + 1) _ (by omega) (by omega) (fz_then g (by omega) (by omega)) (mkU_set hsh b1)
theorem cc_mark {κ n k l : Nat} {s : Nat → Nat} {M0 : sm_M} (ho : okF κ n k = true) (hf : famp M0 κ n k) (hr : rowp M0 24 l s) (hl : l ≤ 240) (hs : ∀ i, i < l → s i < 8) : okp (f_X5_markWindows 300 24 M0) (fun M' => (∀ e, e < 200 → M'.1 63 e = bI (mkU κ n k s (l + 1 - n) e)) ∧ fz 63 64 M0 M') := by
  have key : ∀ (m i : Nat) (M : sm_M), 200 < m + i → i ≤ 200 → fz 63 64 M0 M → (∀ e, e < i → M.1 63 e = nI 0) → okp (f_X5_markWindows_2 300 24 m (nI i) M) (fun M' => (∀ e, e < 200 → M'.1 63 e = bI (mkU κ n k s (l + 1 - n) e)) ∧ fz 63 64 M0 M') := by
    intro m
    induction m with
    | zero => intro i M a b; omega
    | succ m ih =>
      intro i M a1 a2 g b1
      show okp (f_X5_markWindows_2b 300 24 (f_X5_markWindows_2 300 24 m) _ _) _
      unfold f_X5_markWindows_2b
      rw [nl_200, nl_0, vb_0, i1]
      by_cases c : 200 ≤ i
      · rw [if_pos (nI_le c (by omega))]
        refine okp_mono (p_mkw ho (famp_f hf g (by omega)) (rowp_f hr g (by omega)) hl hs 300 0 M (by omega) (by omega) fz_refl (fun e he => by rw [b1 e (by omega)]; rfl)) ?_
        rintro M' ⟨r1, r2⟩
        exact ⟨r1, fz_tr g r2 (by omega) (by omega) (by omega) (by omega)⟩
      · rw [if_neg (nI_ge (by omega) (by omega)), g_ib (by omega) (by omega), nI_clamp (by omega)]
        refine ih (i + 1) _ (by omega) (by omega) (fz_then g (by omega) (by omega)) (fun e he => ?_)
        by_cases q : e = i
        · subst q
          rw [mi_eq]
        · rw [mi_ni q]
          exact b1 e (by omega)
  exact key 300 0 M0 (by omega) (by omega) fz_refl (fun e he => by omega)
