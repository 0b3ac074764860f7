/-! ===== rows and the history of the class ===== -/
def rowp (M : sm_M) (a l : Nat) (s : Nat → Nat) : Prop := M.1 a 1 = nI l ∧ ∀ i, i < l → M.1 (a + 1) i = nI (s i)
theorem rowp_c {M M' : sm_M} {a l : Nat} {s : Nat → Nat} (h : rowp M a l s) (e1 : M'.1 a = M.1 a) (e2 : M'.1 (a + 1) = M.1 (a + 1)) : rowp M' a l s := by
  refine ⟨by rw [e1]; exact h.1, fun i hi => by rw [e2]; exact h.2 i hi⟩
theorem rowp_s {M : sm_M} {a l : Nat} {s s' : Nat → Nat} (h : rowp M a l s) (e : ∀ i, i < l → s' i = s i) : rowp M a l s' := ⟨h.1, fun i hi => by rw [e i hi]; exact h.2 i hi⟩
theorem rowp_f {M M' : sm_M} {a l lo hi : Nat} {s : Nat → Nat} (h : rowp M a l s) (f : fz lo hi M M') (e : a + 1 < lo ∨ hi ≤ a) : rowp M' a l s := rowp_c h (fz_1 f (by omega)) (fz_1 f (by omega))
theorem p_copyFrom {F a0 a1 : Nat} {M : sm_M} (h1 : a1 ≠ a0 + 1) : f_X7_copyFrom F a0 a1 M = some (sm_mi (sm_mc M (a1 + 1) (a0 + 1) 0 0 240) a0 1 (M.1 a1 1)) := by
  unfold f_X7_copyFrom
  rw [g_t (by decide)]
  have e0 : (0 : Int32).toNatClampNeg = 0 := by decide
  have e1 : (240 : Int32).toNatClampNeg = 240 := by decide
  rw [e0, e1, mc_na (x := a1) h1]
theorem p_copy {F a0 a1 l : Nat} {s : Nat → Nat} {M : sm_M} (h1 : a1 ≠ a0 + 1) (hr : rowp M a1 l s) (hl : l ≤ 240) : okp (f_X7_copyFrom F a0 a1 M) (fun M' => rowp M' a0 l s ∧ fz a0 (a0 + 2) M M') := by
  rw [p_copyFrom h1]
  refine okp_some ⟨⟨?_, fun i hi => ?_⟩, ?_⟩
  · rw [mi_eq]
    exact hr.1
  · rw [mi_na (by omega), mc_in (by omega)]
    exact hr.2 i hi
  · exact fz_then (fz_mc (by omega) (by omega)) (by omega) (by omega)
theorem p_push {F a0 l v : Nat} {s : Nat → Nat} {M : sm_M} (hr : rowp M a0 l s) (hl : l < 240) : okp (f_X7_push F a0 (nI v) M) (fun M' => rowp M' a0 (l + 1) (fun i => if i = l then v else s i) ∧ fz a0 (a0 + 2) M M' ∧ (∀ i, i < l → M'.1 (a0 + 1) i = M.1 (a0 + 1) i)) := by
  unfold f_X7_push f_X7_push_32
  simp (disch := omega) only [hr.1, nl_0, nl_1, nl_2, nl_3, nl_4, nl_5, nl_7, nl_8, nl_12, nl_48, nl_49, nl_50, nl_200, nl_201, nl_240, nl_30000, nl_m1, nl_m1b, g_ib, g_nz, g_b0, g_b1, vb_0, vb_1, nI_fold, nI_add, pk_mul, nI_leI, nI_ltI, nI_eq, nI_clamp, pk_rem, mN_eq, mN_eq2, mN_self, mN_add, mi_eq, mi_na, mi_ni, mi_2, ml_1, ml_na]
  refine okp_f (by omega) (okp_some ⟨⟨?_, fun i hi => ?_⟩, ?_, fun i hi => ?_⟩)
  · simp (disch := omega) only [mi_eq, mi_na, mi_ni, mi_2, ml_1, ml_na, hr.1, nI_add]
  · by_cases e : i = l
    · subst e
      simp (disch := omega) only [mi_eq, mi_na, mi_ni, mi_2, ml_1, ml_na, if_true]
    · simp (disch := omega) only [mi_eq, mi_na, mi_ni, mi_2, ml_1, ml_na, if_neg e]
      exact hr.2 i (by omega)
  · exact fz_then (fz_mi (by omega) (by omega)) (by omega) (by omega)
  · simp (disch := omega) only [mi_eq, mi_na, mi_ni, mi_2, ml_1, ml_na]
theorem p_pushI {F a0 l : Nat} {v : Int32} {s : Nat → Nat} {M : sm_M} (hr : rowp M a0 l s) (hl : l < 240) (w : Nat) (hv : v = nI w) : okp (f_X7_push F a0 v M) (fun M' => rowp M' a0 (l + 1) (fun i => if i = l then w else s i) ∧ fz a0 (a0 + 2) M M' ∧ (∀ i, i < l → M'.1 (a0 + 1) i = M.1 (a0 + 1) i)) := by
  subst hv
  exact p_push hr hl
theorem p_cyc {F a0 l p : Nat} {s : Nat → Nat} {M : sm_M} (hr : rowp M a0 l s) (h0 : 0 < l) (hl : l ≤ 240) (hp : p < 100000) : f_X7_cyclicSymbol F a0 (nI p) M = some (nI (s (p % l))) := by
  have hm : p % l < l := Nat.mod_lt _ h0
  unfold f_X7_cyclicSymbol
  rw [if_neg (nI_pos (by omega)), hr.1, if_pos (by rw [nl_0]; exact nI_lt h0 (by omega))]
  simp (disch := omega) only [nl_0, nl_1, nl_2, nl_3, nl_4, nl_5, nl_7, nl_8, nl_12, nl_48, nl_49, nl_50, nl_200, nl_201, nl_240, nl_30000, nl_m1, nl_m1b, g_ib, g_nz, g_b0, g_b1, vb_0, vb_1, nI_fold, nI_add, pk_mul, nI_leI, nI_ltI, nI_eq, nI_clamp, pk_rem, mN_eq, mN_eq2, mN_self, mN_add]
  rw [hr.2 _ hm]
/-! bits -/
def bc_x (x0 : Int32) : Int32 :=
  let x1 := x0 - ((x0.toUInt32 >>> ((1 : Int32).toUInt32 &&& Int32.toUInt32 31)).toInt32 &&& (1431655765 : Int32))
  let x2 := (x1 &&& (858993459 : Int32)) + ((x1.toUInt32 >>> ((2 : Int32).toUInt32 &&& Int32.toUInt32 31)).toInt32 &&& (858993459 : Int32))
  let x3 := (x2 + (x2.toUInt32 >>> ((4 : Int32).toUInt32 &&& Int32.toUInt32 31)).toInt32) &&& (252645135 : Int32)
  let x4 := x3 + (x3.toUInt32 >>> ((8 : Int32).toUInt32 &&& Int32.toUInt32 31)).toInt32
  let x5 := x4 + (x4.toUInt32 >>> ((16 : Int32).toUInt32 &&& Int32.toUInt32 31)).toInt32
  x5 &&& (63 : Int32)
/-- how many of the lowest t bits are set -/
def popn (m : Nat) : Nat → Nat
  | 0 => 0
  | t + 1 => popn m t + (if m.testBit t then 1 else 0)
theorem bc_256 : ∀ m, m < 256 → bc_x (nI m) = nI (popn m 8) := fun m hm => co_dec (P := fun m => bc_x (nI m) = nI (popn m 8)) (N := 256) (by decide +kernel) hm
theorem p_bc {F m : Nat} {M : sm_M} (h : m < 256) : f_J6_bitCount_0f7a4 F (nI m) M = some (nI (popn m 8)) := by
  rw [← bc_256 m h]
  rfl
theorem sh_1 : ∀ v, v < 8 → (nI 1) <<< (nI v &&& 31) = nI (2 ^ v) := fun v hv => co_dec (P := fun v => (nI 1) <<< (nI v &&& 31) = nI (2 ^ v)) (N := 8) (by decide +kernel) hv
/-- the mask of the values below l -/
def mskn (s : Nat → Nat) : Nat → Nat
  | 0 => 0
  | l + 1 => mskn s l ||| 2 ^ s l
theorem mskn_lt {s : Nat → Nat} : ∀ {l : Nat}, (∀ i, i < l → s i < 8) → mskn s l < 256
  | 0, _ => Nat.zero_lt_succ _
  | l + 1, h => by
    have h1 := mskn_lt (l := l) (fun i hi => h i (by omega))
    have h2 : 2 ^ s l < 2 ^ 8 := Nat.pow_lt_pow_right (by decide) (h l (by omega))
    exact Nat.or_lt_two_pow (n := 8) h1 h2
theorem mskn_bit {s : Nat → Nat} {t : Nat} : ∀ {l : Nat}, (mskn s l).testBit t = true ↔ ∃ i, i < l ∧ s i = t
  | 0 => by simp [mskn]
  | l + 1 => by
    have ih := mskn_bit (s := s) (t := t) (l := l)
    simp only [mskn, Nat.testBit_or, Bool.or_eq_true, ih, Nat.testBit_two_pow, decide_eq_true_eq]
    constructor
    · rintro (⟨i, h1, h2⟩ | h)
      · exact ⟨i, by omega, h2⟩
      · exact ⟨l, by omega, h⟩
    · rintro ⟨i, h1, h2⟩
      by_cases e : i = l
      · subst e
        exact Or.inr h2
      · exact Or.inl ⟨i, by omega, h2⟩
theorem mskn_cong {s s' : Nat → Nat} : ∀ {l : Nat}, (∀ i, i < l → s i = s' i) → mskn s l = mskn s' l
  | 0, _ => rfl
  | l + 1, h => by
    simp only [mskn]
    rw [mskn_cong (l := l) (fun i hi => h i (by omega)), h l (by omega)]
theorem p_mask_l {F a0 l : Nat} {s : Nat → Nat} {M : sm_M} (hr : rowp M a0 l s) (hl : l ≤ 240) (hs : ∀ i, i < l → s i < 8) : ∀ (n i : Nat), l < n + i → i ≤ l → f_X7_symbolMask_4 F a0 n (nI (mskn s i)) (nI i) M = some (nI (mskn s l)) := by
  intro n
  induction n with
  | zero => intro i h1 h2; omega
  | succ n ih =>
    intro i h1 h2
    show f_X7_symbolMask_4b F a0 (f_X7_symbolMask_4 F a0 n) _ _ _ = _
    unfold f_X7_symbolMask_4b
    by_cases h : l ≤ i
    · have e : i = l := by omega
      subst e
      rw [hr.1, if_pos (nI_le h (by omega))]
    · rw [hr.1, if_neg (nI_ge (by omega) (by omega))]
      have h8 := hs i (by omega)
      simp (disch := omega) only [g_ib, nI_clamp, hr.2 i (by omega), nl_1, nI_add, sh_1 _ h8, fa_or]
      exact ih (i + 1) (by omega) (by omega)
theorem p_mask {F a0 l : Nat} {s : Nat → Nat} {M : sm_M} (hr : rowp M a0 l s) (hl : l ≤ 240) (hs : ∀ i, i < l → s i < 8) (hF : 240 < F) : f_X7_symbolMask F a0 M = some (nI (mskn s l)) := p_mask_l hr hl hs F 0 (by omega) (by omega)
/-! rotations -/
def lowr (s : Nat → Nat) (l p q : Nat) : Nat → Nat → Bool
  | 0, _ => false
  | r + 1, i => if s ((p + i) % l) = s ((q + i) % l) then lowr s l p q r (i + 1) else decide (s ((p + i) % l) < s ((q + i) % l))
def lowb (s : Nat → Nat) (l : Nat) : Nat → Nat
  | 0 => 0
  | p + 1 => if p ≠ 0 ∧ lowr s l p (lowb s l p) l 0 = true then p else lowb s l p
theorem lowb_lt (s : Nat → Nat) (l : Nat) : ∀ p, 0 < p → lowb s l p < p
  | 0, h => absurd h (Nat.lt_irrefl 0)
  | 1, _ => by simp [lowb]
  | p + 2, _ => by
    have ih := lowb_lt s l (p + 1) (by omega)
    rw [lowb]
    split <;> omega
theorem nI_diff {a b : Nat} (ha : a < 8) (hb : b < 8) : (nI a - nI b = nI 0 ↔ a = b) ∧ (nI 0 ≤ nI a - nI b ↔ b ≤ a) := by
  rw [fa_eq, fa_le, pk_sub_toInt (by omega) (by omega), nI_toInt (by omega)]
  omega
theorem p_low_l {F a0 l p q : Nat} {s : Nat → Nat} {M : sm_M} (hr : rowp M a0 l s) (hl : l ≤ 240) (hs : ∀ i, i < l → s i < 8) (hp : p < 240) (hq : q < 240) : ∀ (n i : Nat), l < n + i → i ≤ l → f_X7_isLowerRotation_2 F a0 n (nI p) (nI q) (nI i) M = some (if lowr s l p q (l - i) i = true then nI 1 else nI 0) := by
  intro n
  induction n with
  | zero => intro i h1 h2; omega
  | succ n ih =>
    intro i h1 h2
    show f_X7_isLowerRotation_2b F a0 (f_X7_isLowerRotation_2 F a0 n) _ _ _ _ = _
    unfold f_X7_isLowerRotation_2b
    by_cases h : l ≤ i
    · have e : l - i = 0 := by omega
      rw [hr.1, if_pos (nI_le h (by omega)), e]
      rfl
    · have h0 : 0 < l := by omega
      have m1 := hs _ (Nat.mod_lt (p + i) h0)
      have m2 := hs _ (Nat.mod_lt (q + i) h0)
      have e : l - i = (l - (i + 1)) + 1 := by omega
      rw [hr.1, if_neg (nI_ge (by omega) (by omega)), nI_add, nI_add, p_cyc hr h0 hl (by omega), p_cyc hr h0 hl (by omega), e, lowr]
      simp only [Option.bind_some, nl_0, (nI_diff m1 m2).1, (nI_diff m1 m2).2, nl_1, nI_add]
      by_cases c : s ((p + i) % l) = s ((q + i) % l)
      · rw [if_pos c, if_pos c]
        exact ih (i + 1) (by omega) (by omega)
      · rw [if_neg c, if_neg c]
        unfold f_X7_isLowerRotation_42
        by_cases d : s ((q + i) % l) ≤ s ((p + i) % l)
        · rw [if_pos d, g_b0, if_neg (by simp only [decide_eq_true_eq]; omega)]
        · rw [if_neg d, g_b1, if_pos (by simp only [decide_eq_true_eq]; omega)]
theorem p_low {F a0 l p q : Nat} {s : Nat → Nat} {M : sm_M} (hr : rowp M a0 l s) (hl : l ≤ 240) (hs : ∀ i, i < l → s i < 8) (hp : p < 240) (hq : q < 240) (hF : 240 < F) : f_X7_isLowerRotation F a0 (nI p) (nI q) M = some (if lowr s l p q l 0 = true then nI 1 else nI 0) := p_low_l hr hl hs hp hq F 0 (by omega) (by omega)
theorem p_lowest_l {F a0 l : Nat} {s : Nat → Nat} {M : sm_M} (hr : rowp M a0 l s) (hl : l ≤ 240) (h0 : 0 < l) (hs : ∀ i, i < l → s i < 8) (hF : 240 < F) : ∀ (n p : Nat), l < n + p → 0 < p → p ≤ l → f_X7_lowestRotation_4 F a0 n (nI (lowb s l p)) (nI p) M = some (nI (lowb s l l)) := by
  intro n
  induction n with
  | zero => intro i h1 h2; omega
  | succ n ih =>
    intro p h1 h2 h3
    show f_X7_lowestRotation_4b F a0 (f_X7_lowestRotation_4 F a0 n) _ _ _ = _
    unfold f_X7_lowestRotation_4b f_X7_lowestRotation_23
    have hb := lowb_lt s l p h2
    by_cases h : l ≤ p
    · have e : p = l := by omega
      subst e
      rw [hr.1, if_pos (nI_le h (by omega))]
    · rw [hr.1, if_neg (nI_ge (by omega) (by omega)), p_low hr hl hs (by omega) (by omega) hF]
      simp only [Option.bind_some, nl_0, nl_1, nI_add, b_if]
      have ih1 := ih (p + 1) (by omega) (by omega) (by omega)
      rw [lowb] at ih1
      by_cases c : lowr s l p (lowb s l p) l 0 = true
      · rw [if_pos c]
        rw [if_pos ⟨by omega, c⟩] at ih1
        exact ih1
      · rw [if_neg c]
        rw [if_neg (fun q => c q.2)] at ih1
        exact ih1
theorem p_lowest {F a0 l : Nat} {s : Nat → Nat} {M : sm_M} (hr : rowp M a0 l s) (hl : l ≤ 240) (h0 : 0 < l) (hs : ∀ i, i < l → s i < 8) (hF : 240 < F) : f_X7_lowestRotation F a0 M = some (nI (lowb s l l)) := p_lowest_l hr hl h0 hs hF F 1 (by omega) (by omega) h0
/-! the history: hc records, the newest first -/
def CH (M : sm_M) (hc : Nat) (hl : Nat → Nat) (hs : Nat → Nat → Nat) : Prop := ∃ nw, nw < 12 ∧ M.1 26 1 = nI nw ∧ M.1 26 2 = nI hc ∧ hc ≤ 12 ∧ ∀ j, j < hc → rowp M (28 + 2 * ((nw + 12 - j) % 12)) (hl j) (hs j)
def hcons {α : Type} (x : α) (f : Nat → α) : Nat → α
  | 0 => x
  | j + 1 => f j
theorem CH_f {M M' : sm_M} {hc lo hi : Nat} {hl : Nat → Nat} {hs : Nat → Nat → Nat} (h : CH M hc hl hs) (f : fz lo hi M M') (e : 52 ≤ lo ∨ hi ≤ 26) : CH M' hc hl hs := by
  obtain ⟨nw, h1, h2, h3, h4, h5⟩ := h
  have e26 : M'.1 26 = M.1 26 := fz_1 f (by omega)
  refine ⟨nw, h1, by rw [e26]; exact h2, by rw [e26]; exact h3, h4, fun j hj => rowp_f (h5 j hj) f ?_⟩
  have : (nw + 12 - j) % 12 < 12 := Nat.mod_lt _ (by decide)
  omega
theorem p_rem22 {F nw l hc : Nat} {s : Nat → Nat} {M : sm_M} (hn : nw < 12) (hc2 : hc ≤ 12) (h2 : M.1 26 2 = nI hc) (hr : rowp M 24 l s) (hl : l ≤ 240) : okp (f_X6_remember_22 F 24 (nI nw) M) (fun r => r.1 = 28 + 2 * nw ∧ rowp r.2 (28 + 2 * nw) l s ∧ r.2.1 26 1 = nI nw ∧ r.2.1 26 2 = nI (if hc + 1 ≤ 12 then hc + 1 else 12) ∧ fz 26 52 M r.2 ∧ ∀ a, a ≠ 26 → a ≠ 28 + 2 * nw → a ≠ 28 + 2 * nw + 1 → r.2.1 a = M.1 a) := by
  unfold f_X6_remember_22
  simp (disch := omega) only [nl_0, nl_1, nl_2, nl_3, nl_4, nl_5, nl_7, nl_8, nl_12, nl_48, nl_49, nl_50, nl_200, nl_201, nl_240, nl_30000, nl_m1, nl_m1b, g_ib, g_nz, g_b0, g_b1, vb_0, vb_1, nI_fold, nI_add, pk_mul, nI_leI, nI_ltI, nI_eq, nI_clamp, pk_rem, mN_eq, mN_eq2, mN_self, mN_add, mi_eq, mi_na, mi_ni, mi_2, ml_1, ml_na, h2]
  refine okp_bind (p_copy (l := l) (s := s) (by omega) (rowp_c hr (by simp (disch := omega) only [mi_eq, mi_na, mi_ni, mi_2, ml_1, ml_na]) (by simp (disch := omega) only [mi_eq, mi_na, mi_ni, mi_2, ml_1, ml_na])) hl) ?_
  rintro M' ⟨a1, a2⟩
  have e1 : M'.1 26 1 = nI nw := by
    rw [fz_1 a2 (by omega)]
    simp (disch := omega) only [mi_eq, mi_na, mi_ni, mi_2, ml_1, ml_na]
  rw [e1]
  simp (disch := omega) only [nl_0, nl_1, nl_2, nl_3, nl_4, nl_5, nl_7, nl_8, nl_12, nl_48, nl_49, nl_50, nl_200, nl_201, nl_240, nl_30000, nl_m1, nl_m1b, g_ib, g_nz, g_b0, g_b1, vb_0, vb_1, nI_fold, nI_add, pk_mul, nI_leI, nI_ltI, nI_eq, nI_clamp, pk_rem, mN_eq, mN_eq2, mN_self, mN_add]
  refine okp_some ⟨rfl, a1, e1, ?_, ?_, fun a b1 b2 b3 => ?_⟩
  · rw [fz_1 a2 (by omega), mi_eq]
    by_cases c : 12 < hc + 1
    · rw [if_pos c, if_neg (by omega)]
    · rw [if_neg c, if_pos (by omega)]
  · refine fz_tr (fz_then (fz_mi (l := 26) (h := 52) (by omega) (by omega)) (by omega) (by omega)) a2 (by omega) (by omega) (by omega) (by omega)
  · rw [fz_1 a2 (by omega), mi_na b1, mi_na b1]
theorem p_remember {F l hc : Nat} {s : Nat → Nat} {hl : Nat → Nat} {hs : Nat → Nat → Nat} {M : sm_M} (hC : CH M hc hl hs) (hr : rowp M 24 l s) (hl2 : l ≤ 240) : okp (f_X6_remember F 24 M) (fun r => CH r.2 (if hc + 1 ≤ 12 then hc + 1 else 12) (hcons l hl) (hcons s hs) ∧ rowp r.2 r.1 l s ∧ 28 ≤ r.1 ∧ r.1 + 2 ≤ 52 ∧ fz 26 52 M r.2) := by
  obtain ⟨nw, h1, h2, h3, h4, h5⟩ := hC
  have key : ∀ nw', nw' < 12 → nw' = (nw + 1) % 12 → okp (f_X6_remember_22 F 24 (nI nw') M) (fun r => CH r.2 (if hc + 1 ≤ 12 then hc + 1 else 12) (hcons l hl) (hcons s hs) ∧ rowp r.2 r.1 l s ∧ 28 ≤ r.1 ∧ r.1 + 2 ≤ 52 ∧ fz 26 52 M r.2) := by
    intro nw' b1 b2
    refine okp_mono (p_rem22 b1 h4 h3 hr hl2) ?_
    rintro r ⟨c1, c2, c3, c4, c5, c6⟩
    refine ⟨⟨nw', b1, c3, c4, by split <;> omega, fun j hj => ?_⟩, by rw [c1]; exact c2, by omega, by omega, c5⟩
    match j, hj with
    | 0, _ =>
      have e : (nw' + 12 - 0) % 12 = nw' := by omega
      rw [e]
      exact c2
    | j + 1, hj =>
      have hj2 : j < hc ∧ j + 1 < 12 := by split at hj <;> omega
      have e : (nw' + 12 - (j + 1)) % 12 = (nw + 12 - j) % 12 := by omega
      have ne : (nw + 12 - j) % 12 ≠ nw' := by omega
      rw [e]
      exact rowp_c (h5 j hj2.1) (c6 _ (by omega) (by omega) (by omega)) (c6 _ (by omega) (by omega) (by omega))
  unfold f_X6_remember
  rw [h2]
  simp (disch := omega) only [nl_0, nl_1, nl_2, nl_3, nl_4, nl_5, nl_7, nl_8, nl_12, nl_48, nl_49, nl_50, nl_200, nl_201, nl_240, nl_30000, nl_m1, nl_m1b, g_ib, g_nz, g_b0, g_b1, vb_0, vb_1, nI_fold, nI_add, pk_mul, nI_leI, nI_ltI, nI_eq, nI_clamp, pk_rem, mN_eq, mN_eq2, mN_self, mN_add]
  refine okp_if (fun c => key 0 (by omega) (by omega)) (fun c => key (nw + 1) (by omega) (by omega))
theorem p_takeInto {F hc : Nat} {hl : Nat → Nat} {hs : Nat → Nat → Nat} {M : sm_M} (hC : CH M (hc + 1) hl hs) (hl2 : hl 0 ≤ 240) : okp (f_X6_takeInto F 24 M) (fun M' => CH M' hc (fun j => hl (j + 1)) (fun j => hs (j + 1)) ∧ rowp M' 24 (hl 0) (hs 0) ∧ fz 24 27 M M') := by
  obtain ⟨nw, h1, h2, h3, h4, h5⟩ := hC
  have hr := h5 0 (by omega)
  have e : (nw + 12 - 0) % 12 = nw := by omega
  rw [e] at hr
  unfold f_X6_takeInto
  rw [h2]
  simp (disch := omega) only [nl_0, nl_1, nl_2, nl_3, nl_4, nl_5, nl_7, nl_8, nl_12, nl_48, nl_49, nl_50, nl_200, nl_201, nl_240, nl_30000, nl_m1, nl_m1b, g_ib, g_nz, g_b0, g_b1, vb_0, vb_1, nI_fold, nI_add, pk_mul, nI_leI, nI_ltI, nI_eq, nI_clamp, pk_rem, mN_eq, mN_eq2, mN_self, mN_add]
  refine okp_bind (p_copy (by omega) hr hl2) ?_
  rintro M' ⟨a1, a2⟩
  have e26 : M'.1 26 = M.1 26 := fz_1 a2 (by omega)
  have key : ∀ nw', nw' < 12 → nw' = (nw + 11) % 12 → okp (f_X6_takeInto_32 F 24 (nI nw') M') (fun M' => CH M' hc (fun j => hl (j + 1)) (fun j => hs (j + 1)) ∧ rowp M' 24 (hl 0) (hs 0) ∧ fz 24 27 M M') := by
    intro nw' b1 b2
    unfold f_X6_takeInto_32
    refine okp_some ⟨⟨nw', b1, ?_, ?_, by omega, fun j hj => ?_⟩, ?_, ?_⟩
    · simp (disch := omega) only [mi_eq, mi_na, mi_ni, mi_2, ml_1, ml_na]
    · simp (disch := omega) only [mi_eq, mi_na, mi_ni, mi_2, ml_1, ml_na, e26, h3, nl_1]
      rw [pk_sub (by omega)]
      rfl
    · have e9 : (nw' + 12 - j) % 12 = (nw + 12 - (j + 1)) % 12 := by omega
      rw [e9]
      exact rowp_c (h5 (j + 1) (by omega)) (by simp (disch := omega) only [mi_eq, mi_na, mi_ni, mi_2, ml_1, ml_na]; exact fz_1 a2 (by omega)) (by simp (disch := omega) only [mi_eq, mi_na, mi_ni, mi_2, ml_1, ml_na]; exact fz_1 a2 (by omega))
    · exact rowp_c a1 (by simp (disch := omega) only [mi_eq, mi_na, mi_ni, mi_2, ml_1, ml_na]) (by simp (disch := omega) only [mi_eq, mi_na, mi_ni, mi_2, ml_1, ml_na])
    · exact fz_then (fz_then (fz_w a2 (by omega) (by omega)) (by omega) (by omega)) (by omega) (by omega)
  have e27 : M'.1 26 1 = nI nw := by rw [e26]; exact h2
  rw [e27]
  simp (disch := omega) only [nl_0, nl_1, nl_2, nl_3, nl_4, nl_5, nl_7, nl_8, nl_12, nl_48, nl_49, nl_50, nl_200, nl_201, nl_240, nl_30000, nl_m1, nl_m1b, g_ib, g_nz, g_b0, g_b1, vb_0, vb_1, nI_fold, nI_add, pk_mul, nI_leI, nI_ltI, nI_eq, nI_clamp, pk_rem, mN_eq, mN_eq2, mN_self, mN_add]
  refine okp_if (fun c => key 11 (by omega) (by omega)) (fun c => ?_)
  rw [pk_sub (by omega)]
  exact key (nw - 1) (by omega) (by omega)
