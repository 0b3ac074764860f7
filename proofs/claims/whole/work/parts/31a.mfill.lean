/-! ===== the reference's family ===== -/
theorem dg_div (x j : Nat) : dg (x / 8) j = dg x (j + 1) := by
  unfold dg
  rw [Nat.div_div_eq_div_mul]
  have e : 8 * 2 ^ (3 * j) = 2 ^ (3 * (j + 1)) := by
    rw [Nat.mul_succ, Nat.pow_add, Nat.mul_comm]
  rw [e]
theorem dg_z (x : Nat) : dg x 0 = x % 8 := by
  unfold dg
  rw [Nat.mul_zero, Nat.pow_zero, Nat.div_one]
theorem p_digit {F c L p : Nat} {M : sm_M} (hc : c < 2 ^ 31) (hp : p < L) (hL : L ≤ 5) (hF : 6 < F) : f_X12_digit F (nI c) (nI L) (nI p) M = some (nI (dg c (L - 1 - p))) := by
  have key : ∀ (m i x : Nat), L < m + i → i ≤ L → x < 2 ^ 31 → f_X12_digit_7 F m (nI L) (nI x) (nI i) M = some (nI (dg x (L - i))) := by
    intro m
    induction m with
    | zero => intro i x h1 h2; omega
    | succ m ih =>
      intro i x h1 h2 h3
      show f_X12_digit_7b F (f_X12_digit_7 F m) _ _ _ _ = _
      unfold f_X12_digit_7b
      by_cases h : L ≤ i
      · have e : L - i = 0 := by omega
        rw [if_pos (nI_le h (by omega)), nl_8, pk_rem h3 (by omega) (by omega), e, dg_z]
      · have e : L - i = (L - (i + 1)) + 1 := by omega
        rw [if_neg (nI_ge (by omega) (by omega)), nl_8, pk_div h3 (by omega) (by omega), i1, ih (i + 1) (x / 8) (by omega) (by omega) (by omega), e, dg_div]
  unfold f_X12_digit
  rw [nl_1, nI_add, key F (p + 1) c (by omega) (by omega) hc]
  have e : L - (p + 1) = L - 1 - p := by omega
  rw [e]
def rlb (κ o s : Nat) : Bool := if κ = 0 then true else if κ = 3 then decide (o < s) else decide (o ≠ s)
theorem mayf_iff {κ c f s : Nat} : mayf κ c f s = true ↔ ∀ i, i < f → rlb κ (dg c i) s = true := by
  unfold mayf rlb
  by_cases h : κ = 0
  · simp [h]
  · by_cases h3 : κ = 3
    · simp [h3]
    · simp [h, h3]
theorem isK_iff {κ S : Nat} : ∀ {L c : Nat}, isK κ S L c = true ↔ ∀ i, i < L → dg c (L - 1 - i) < S ∧ ∀ j, j < i → rlb κ (dg c (L - 1 - j)) (dg c (L - 1 - i)) = true
  | 0, c => by simp [isK]
  | L + 1, c => by
    simp only [isK, Bool.and_eq_true, decide_eq_true_eq, mayf_iff]
    rw [isK_iff (L := L) (c := c / 8)]
    have e : ∀ i, i < L → dg (c / 8) (L - 1 - i) = dg c (L + 1 - 1 - i) := fun i hi => by
      rw [dg_div]
      congr 1
      omega
    have e0 : dg c (L + 1 - 1 - L) = c % 8 := by
      have : L + 1 - 1 - L = 0 := by omega
      rw [this, dg_z]
    constructor
    · rintro ⟨h1, h2, h3⟩ i hi
      by_cases q : i = L
      · subst q
        rw [e0]
        refine ⟨h2, fun j hj => ?_⟩
        have := h3 (i - 1 - j) (by omega)
        rw [e j hj] at this
        exact this
      · obtain ⟨a1, a2⟩ := h1 i (by omega)
        rw [e i (by omega)] at a1
        refine ⟨a1, fun j hj => ?_⟩
        have := a2 j hj
        rw [e i (by omega), e j (by omega)] at this
        exact this
    · intro h
      refine ⟨fun i hi => ?_, ?_, fun j hj => ?_⟩
      · obtain ⟨a1, a2⟩ := h i (by omega)
        rw [e i hi]
        refine ⟨a1, fun j hj => ?_⟩
        rw [e j (by omega)]
        exact a2 j hj
      · have := (h L (by omega)).1
        rw [e0] at this
        exact this
      · have := (h L (by omega)).2 (L - 1 - j) (by omega)
        rw [e0, ← e _ (by omega)] at this
        have e9 : L - 1 - (L - 1 - j) = j := by omega
        rw [e9] at this
        exact this
theorem p_ok46 {F κ S L c i : Nat} {M : sm_M} {kb : Int32 → Int32 → Int32 → Int32 → sm_M → Option Int32} (h1 : M.1 80 1 = nI κ) (hκ : κ < 4) (hc : c < 2 ^ 31) (hL : L ≤ 5) (hi : i < L) (hF : 6 < F) : ∀ (m j : Nat), i < m + j → j ≤ i → (∀ q, q < j → rlb κ (dg c (L - 1 - q)) (dg c (L - 1 - i)) = true) → f_X12_isOfKind_46 F kb m (nI c) (nI L) (nI S) (nI i) (nI (dg c (L - 1 - i))) (nI j) M = if (∀ q, q < i → rlb κ (dg c (L - 1 - q)) (dg c (L - 1 - i)) = true) then kb (nI c) (nI L) (nI S) (nI (i + 1)) M else some (nI 0) := by
  intro m
  induction m with
  | zero => intro j a b; omega
  | succ m ih =>
    intro j a1 a2 a3
    show f_X12_isOfKind_46b F kb (f_X12_isOfKind_46 F kb m) _ _ _ _ _ _ _ = _
    unfold f_X12_isOfKind_46b f_X12_isOfKind_94 f_X12_isOfKind_96
    by_cases h : i ≤ j
    · have e : j = i := by omega
      subst e
      rw [if_pos (nI_le h (by omega)), if_pos a3, i1]
    · have d1 := dg_lt c (L - 1 - j)
      have d2 := dg_lt c (L - 1 - i)
      rw [if_neg (nI_ge (by omega) (by omega)), p_digit hc (by omega) hL hF, Option.bind_some, h1, nl_0, nl_3, i1]
      simp (disch := omega) only [nI_eq, nI_ltI]
      have good : rlb κ (dg c (L - 1 - j)) (dg c (L - 1 - i)) = true → f_X12_isOfKind_46 F kb m (nI c) (nI L) (nI S) (nI i) (nI (dg c (L - 1 - i))) (nI (j + 1)) M = if (∀ q, q < i → rlb κ (dg c (L - 1 - q)) (dg c (L - 1 - i)) = true) then kb (nI c) (nI L) (nI S) (nI (i + 1)) M else some (nI 0) := fun g => by
        refine ih (j + 1) (by omega) (by omega) (fun q hq => ?_)
        by_cases e : q = j
        · rw [e]; exact g
        · exact a3 q (by omega)
      have bad : ¬ rlb κ (dg c (L - 1 - j)) (dg c (L - 1 - i)) = true → some (nI 0) = if (∀ q, q < i → rlb κ (dg c (L - 1 - q)) (dg c (L - 1 - i)) = true) then kb (nI c) (nI L) (nI S) (nI (i + 1)) M else some (nI 0) := fun g => by
        rw [if_neg (fun q => g (q j (by omega)))]
      by_cases k3 : κ = 3
      · rw [if_pos k3]
        by_cases q : dg c (L - 1 - j) < dg c (L - 1 - i)
        · rw [if_pos q]
          exact good (by unfold rlb; simp [k3, q])
        · rw [if_neg q]
          exact bad (by unfold rlb; simp [k3, q])
      · rw [if_neg k3]
        by_cases k0 : κ = 0
        · rw [if_pos k0]
          exact good (by unfold rlb; simp [k0])
        · rw [if_neg k0]
          by_cases q : dg c (L - 1 - j) = dg c (L - 1 - i)
          · rw [if_pos q]
            exact bad (by unfold rlb; simp [k0, k3, q])
          · rw [if_neg q]
            exact good (by unfold rlb; simp [k0, k3, q])
theorem p_isK {F κ k L c : Nat} {M : sm_M} (h1 : M.1 80 1 = nI κ) (h3 : M.1 80 3 = nI k) (hκ : κ < 4) (hk : k ≤ 8) (hc : c < 2 ^ 31) (hL : L ≤ 5) (hF : 6 < F) : f_X12_isOfKind F (nI c) (nI L) M = some (nI (if isK κ (kk κ L k) L c = true then 1 else 0)) := by
  have key : ∀ S, S ≤ 8 → ∀ (m i : Nat), L < m + i → i ≤ L → (∀ q, q < i → dg c (L - 1 - q) < S ∧ ∀ j, j < q → rlb κ (dg c (L - 1 - j)) (dg c (L - 1 - q)) = true) → f_X12_isOfKind_20 F m (nI c) (nI L) (nI S) (nI i) M = some (nI (if isK κ S L c = true then 1 else 0)) := by
    intro S hS m
    induction m with
    | zero => intro j a b; omega
    | succ m ih =>
      intro i a1 a2 a3
      show f_X12_isOfKind_20b F (f_X12_isOfKind_20 F m) _ _ _ _ _ = _
      unfold f_X12_isOfKind_20b
      by_cases h : L ≤ i
      · have e : i = L := by omega
        subst e
        rw [if_pos (nI_le h (by omega)), if_pos (isK_iff.mpr a3)]
        rfl
      · have d1 := dg_lt c (L - 1 - i)
        rw [if_neg (nI_ge (by omega) (by omega)), p_digit hc (by omega) hL hF, Option.bind_some]
        simp (disch := omega) only [nI_ltI]
        by_cases q : dg c (L - 1 - i) < S
        · rw [if_pos q, nl_0, p_ok46 h1 hκ hc hL (by omega) hF F 0 (by omega) (by omega) (fun q hq => by omega)]
          by_cases g : ∀ q, q < i → rlb κ (dg c (L - 1 - q)) (dg c (L - 1 - i)) = true
          · rw [if_pos g]
            refine ih (i + 1) (by omega) (by omega) (fun x hx => ?_)
            by_cases e : x = i
            · subst e
              exact ⟨q, g⟩
            · exact a3 x (by omega)
          · rw [if_neg g, if_neg (fun e => g ((isK_iff.mp e) i (by omega)).2)]
        · rw [if_neg q, if_neg (fun e => q ((isK_iff.mp e) i (by omega)).1)]
          rfl
  unfold f_X12_isOfKind f_X12_isOfKind_16
  rw [h1, h3, nl_1]
  simp (disch := omega) only [nI_eq]
  unfold kk
  by_cases h : κ = 1
  · rw [if_pos h, if_pos h]
    exact key L (by omega) F 0 (by omega) (by omega) (fun q hq => by omega)
  · rw [if_neg h, if_neg h]
    exact key k hk F 0 (by omega) (by omega) (fun q hq => by omega)
theorem p_codes {F L : Nat} {M : sm_M} (hL : L ≤ 5) (hF : 6 < F) : f_X12_codes F (nI L) M = some (nI (8 ^ L)) := by
  have key : ∀ (m i : Nat), L < m + i → i ≤ L → f_X12_codes_4 F m (nI L) (nI (8 ^ i)) (nI i) M = some (nI (8 ^ L)) := by
    intro m
    induction m with
    | zero => intro j a b; omega
    | succ m ih =>
      intro i a1 a2
      show f_X12_codes_4b F (f_X12_codes_4 F m) _ _ _ _ = _
      unfold f_X12_codes_4b
      by_cases h : L ≤ i
      · have e : i = L := by omega
        subst e
        rw [if_pos (nI_le h (by omega))]
      · rw [if_neg (nI_ge (by omega) (by omega)), nl_8, pk_mul, i1, ← Nat.pow_succ]
        exact ih (i + 1) (by omega) (by omega)
  exact key F 0 (by omega) (by omega)
theorem p_f44 {F n c em : Nat} {kb : Int32 → sm_M → Option sm_M} {Q : sm_M → Prop} (hn : n ≤ 5) (hc : c < 32768) (hem : em < 200) (hF : 6 < F) : ∀ (m i : Nat) (M : sm_M), n < m + i → i ≤ n → M.1 80 5 = nI em → M.1 80 2 = nI n → (∀ M', M'.1 80 5 = nI (em + 1) → M'.1 82 c = nI em → (∀ j, i ≤ j → j < n → M'.1 81 (5 * em + j) = nI (dg c (n - 1 - j))) → (∀ a j, (a = 80 → j ≠ 5) → (a = 82 → j ≠ c) → (a = 81 → j < 5 * em + i) → M'.1 a j = M.1 a j) → M'.2 = M.2 → okp (kb (nI (c + 1)) M') Q) → okp (f_X12_fill_44 F kb m (nI c) (nI i) M) Q := by
  intro m
  induction m with
  | zero => intro i M a b; omega
  | succ m ih =>
    intro i M a1 a2 h5 h2 hk
    show okp (f_X12_fill_44b F kb (f_X12_fill_44 F kb m) _ _ _) _
    unfold f_X12_fill_44b f_X12_fill_100
    rw [h2]
    by_cases h : n ≤ i
    · rw [if_pos (nI_le h (by omega)), h5, g_ib (by omega) (by omega), nI_clamp (by omega), mi_na (by omega), h5, nl_1, nI_add, nI_add]
      refine hk _ (mi_eq _ _ _ _) ?_ (fun j b1 b2 => by omega) (fun a j e1 e2 e3 => ?_) rfl
      · rw [mi_na (by omega), mi_eq]
      · rw [mi_1, if_neg (fun e => e1 e.1 e.2), mi_1, if_neg (fun e => e2 e.1 e.2)]
    · rw [if_neg (nI_ge (by omega) (by omega)), p_digit (by omega) (by omega) hn hF, Option.bind_some, h5, nl_5, pk_mul, nI_add, g_ib (by omega) (by omega), nI_clamp (by omega), i1]
      refine ih (i + 1) _ (by omega) (by omega) (by rw [mi_na (by omega)]; exact h5) (by rw [mi_na (by omega)]; exact h2) ?_
      intro M' b1 b2 b3 b4 b5
      refine hk M' b1 b2 (fun j c1 c2 => ?_) (fun a j e1 e2 e3 => ?_) b5
      · by_cases e : j = i
        · subst e
          rw [b4 81 _ (by omega) (by omega) (by omega), mi_eq]
        · exact b3 j (by omega) c2
      · rw [b4 a j e1 e2 (by omega), mi_1, if_neg (fun e => by have := e3 e.1; omega)]
theorem fil_s (P : Nat → Bool) (c : Nat) : (List.range (c + 1)).filter P = (List.range c).filter P ++ (if P c = true then [c] else []) := by
  rw [List.range_succ, List.filter_append]
  congr 1
  by_cases h : P c = true
  · rw [if_pos h, List.filter_cons_of_pos h, List.filter_nil]
  · rw [if_neg h, List.filter_cons_of_neg h, List.filter_nil]
theorem fil_len (P : Nat → Bool) {c N : Nat} (h : c ≤ N) : ((List.range c).filter P).length ≤ ((List.range N).filter P).length := List.Sublist.length_le (List.Sublist.filter P (List.range_sublist.mpr h))
def byc (P : Nat → Bool) (c : Nat) : Int32 := if P c = true then nI ((List.range c).filter P).length else mN
theorem byc_idx {P : Nat → Bool} {N c : Nat} (hc : c < N) : byc P c = oI (idxo ((List.range N).filter P) c) := by
  rw [idxo_filter hc]
  unfold byc
  by_cases h : P c = true
  · rw [if_pos h, if_pos h]
    rfl
  · rw [if_neg h, if_neg h]
    rfl
def P12 (a j : Nat) : Prop := (a = 80 ∧ j = 5) ∨ a = 81 ∨ a = 82
theorem p_f12 {F κ n k : Nat} {Q : sm_M → Prop} {M0 : sm_M} (ho : okF κ n k = true) (hF : 6 < F) (h1 : M0.1 80 1 = nI κ) (h2 : M0.1 80 2 = nI n) (h3 : M0.1 80 3 = nI k)
    (hQ : ∀ M', M'.1 80 5 = nI (els κ n k).length → (∀ e c, (els κ n k)[e]? = some c → ∀ i, i < n → M'.1 81 (5 * e + i) = nI (dg c (n - 1 - i))) → (∀ c, c < 8 ^ n → M'.1 82 c = oI (idxo (els κ n k) c)) → mfr P12 M0 M' → okp (if nI κ = (3 : Int32) then (some M') else (f_X12_fill_117 F F (0 : Int32) M')) Q) :
    ∀ (m c : Nat) (M : sm_M), 8 ^ n < m + c → c ≤ 8 ^ n → mfr P12 M0 M → M.1 80 5 = nI ((List.range c).filter (isK κ (kk κ n k) n)).length → (∀ e x, ((List.range c).filter (isK κ (kk κ n k) n))[e]? = some x → ∀ i, i < n → M.1 81 (5 * e + i) = nI (dg x (n - 1 - i))) → (∀ q, q < c → M.1 82 q = byc (isK κ (kk κ n k) n) q) → okp (f_X12_fill_12 F m (nI c) M) Q := by
  obtain ⟨o1, o2, o3, o4, o5, -, -⟩ := okF_of ho
  have hE : els κ n k = (List.range (8 ^ n)).filter (isK κ (kk κ n k) n) := elsR_eq (kk_le ho).1 n
  have h5 : 8 ^ n ≤ 32768 := Nat.le_trans (Nat.pow_le_pow_right (by decide) o3) (by decide)
  have hlen := (els_ok ho).2.1
  intro m
  induction m with
  | zero => intro c M a b; omega
  | succ m ih =>
    intro c M a1 a2 g b1 b2 b3
    have e1 : M.1 80 1 = nI κ := by rw [g.1 80 1 (by unfold P12; omega)]; exact h1
    have e2 : M.1 80 2 = nI n := by rw [g.1 80 2 (by unfold P12; omega)]; exact h2
    have e3 : M.1 80 3 = nI k := by rw [g.1 80 3 (by unfold P12; omega)]; exact h3
    show okp (f_X12_fill_12b F (f_X12_fill_12 F m) _ _) _
    unfold f_X12_fill_12b f_X12_fill_100
    rw [e2, p_codes o3 hF, Option.bind_some, e1]
    by_cases h : 8 ^ n ≤ c
    · have e : c = 8 ^ n := by omega
      subst e
      rw [if_pos (nI_le h (by omega))]
      refine hQ M ?_ ?_ (fun c hc => ?_) g
      · rw [hE]; exact b1
      · rw [hE]; exact b2
      · rw [hE, ← byc_idx hc]
        exact b3 c hc
    · have hl1 := fil_len (isK κ (kk κ n k) n) (show c ≤ 8 ^ n by omega)
      rw [← hE] at hl1
      have i1' : (sm_mi M 82 c (-1)).1 80 1 = nI κ := by rw [mi_na (by omega)]; exact e1
      have i3' : (sm_mi M 82 c (-1)).1 80 3 = nI k := by rw [mi_na (by omega)]; exact e3
      rw [if_neg (nI_ge (by omega) (by omega)), g_ib (by omega) (by omega), nI_clamp (by omega), mi_na (by omega), e2, p_isK i1' i3' o1 o5 (by omega) o3 hF, Option.bind_some]
      have hf := fil_s (isK κ (kk κ n k) n) c
      by_cases hk : isK κ (kk κ n k) n c = true
      · have hl2 := fil_len (isK κ (kk κ n k) n) (show c + 1 ≤ 8 ^ n by omega)
        rw [← hE, hf, if_pos hk, List.length_append] at hl2
        simp only [List.length_singleton] at hl2
        rw [if_pos hk, if_neg (by decide)]
        refine p_f44 (em := ((List.range c).filter (isK κ (kk κ n k) n)).length) o3 (by omega) (by omega) hF F 0 _ (by omega) (by omega) (by rw [mi_na (by omega)]; exact b1) (by rw [mi_na (by omega)]; exact e2) ?_
        intro M' d1 d2 d3 d4 d5
        refine ih (c + 1) M' (by omega) (by omega) ⟨fun a j q => ?_, by rw [d5]; exact g.2⟩ ?_ (fun e x hx i hi => ?_) (fun q hq => ?_)
        · rw [d4 a j (fun e1 e2 => q (by unfold P12; omega)) (fun e1 e2 => q (by unfold P12; omega)) (fun e1 => absurd (show P12 a j by unfold P12; omega) q), mi_na (fun e => q (by unfold P12; omega))]
          exact g.1 a j q
        · rw [hf, if_pos hk, List.length_append]
          exact d1
        · rw [hf, if_pos hk] at hx
          by_cases el : e < ((List.range c).filter (isK κ (kk κ n k) n)).length
          · rw [List.getElem?_append_left el] at hx
            rw [d4 81 _ (by omega) (by omega) (by omega), mi_na (by omega)]
            exact b2 e x hx i hi
          · rw [List.getElem?_append_right (by omega)] at hx
            have e0 : e - ((List.range c).filter (isK κ (kk κ n k) n)).length = 0 := by
              have := (List.getElem?_eq_some_iff.mp hx).1
              simp at this
              omega
            rw [e0] at hx
            simp at hx
            subst hx
            have e9 : e = ((List.range c).filter (isK κ (kk κ n k) n)).length := by omega
            rw [e9]
            exact d3 i (by omega) hi
        · by_cases e : q = c
          · subst e
            rw [d2]
            unfold byc
            rw [if_pos hk]
          · rw [d4 82 q (by omega) (by omega) (by omega), mi_ni e]
            exact b3 q (by omega)
      · rw [if_neg hk, if_pos (by decide), i1]
        refine ih (c + 1) _ (by omega) (by omega) (mfr_mi g (by unfold P12; omega)) ?_ (fun e x hx i hi => ?_) (fun q hq => ?_)
        · rw [hf, if_neg hk, List.append_nil, mi_na (by omega)]
          exact b1
        · rw [hf, if_neg hk, List.append_nil] at hx
          rw [mi_na (by omega)]
          exact b2 e x hx i hi
        · by_cases e : q = c
          · subst e
            rw [mi_eq]
            unfold byc
            rw [if_neg hk]
            rfl
          · rw [mi_ni e]
            exact b3 q (by omega)
