/-! ===== the class's codes: lengthen, fill, indexOf ===== -/
theorem pre_len {κ k f i j : Nat} {c s : Nat} (hi : (elsR κ k f)[i]? = some c) (hs : s < k) (hm : mayf κ c f s = true) (hL : (elsR κ k (f + 1)).length ≤ 200) :
    ((((elsR κ k f).take i).flatMap (fun c => ((List.range k).filter (mayf κ c f)).map (fun s => 8 * c + s))) ++ (((List.range s).filter (mayf κ c f)).map (fun s => 8 * c + s))).length < 200 := by
  obtain ⟨h1, h2⟩ := List.getElem?_eq_some_iff.mp hi
  have e : elsR κ k f = (elsR κ k f).take i ++ (c :: (elsR κ k f).drop (i + 1)) := by
    rw [← h2, List.getElem_cons_drop, List.take_append_drop]
  have e2 : List.range k = List.range s ++ (s :: (List.range' (s + 1) (k - s - 1))) := by
    have : k = s + (1 + (k - s - 1)) := by omega
    conv => lhs; rw [this]
    rw [List.range_eq_range', List.range_eq_range', ← List.range'_append_1, Nat.zero_add, ← List.range'_append_1]
    rfl
  have e3 : (elsR κ k (f + 1)).length = (((elsR κ k f).take i).flatMap (fun c => ((List.range k).filter (mayf κ c f)).map (fun s => 8 * c + s))).length + ((((List.range k).filter (mayf κ c f)).map (fun s => 8 * c + s)).length + (((elsR κ k f).drop (i + 1)).flatMap (fun c => ((List.range k).filter (mayf κ c f)).map (fun s => 8 * c + s))).length) := by
    rw [elsR]
    conv => lhs; rw [e]
    rw [List.flatMap_append, List.flatMap_cons, List.length_append, List.length_append]
  have e4 : (((List.range k).filter (mayf κ c f)).map (fun s => 8 * c + s)).length = (((List.range s).filter (mayf κ c f)).map (fun s => 8 * c + s)).length + (1 + ((List.range' (s + 1) (k - s - 1)).filter (mayf κ c f)).length) := by
    conv => lhs; rw [e2]
    rw [List.filter_append, List.filter_cons_of_pos hm, List.map_append, List.length_append, List.length_map, List.length_map, List.length_cons]
    omega
  rw [List.length_append]
  omega
theorem p_len_in {F a0 κ k f i c : Nat} {kb : Int32 → Int32 → Int32 → Int32 → Int32 → sm_M → Option sm_M} {Q : sm_M → Prop} {nP : Nat} {A : List Nat} {M0 : sm_M} (hκ : κ < 4) (hk : k ≤ 8) (hf : f < 5) (hi : (elsR κ k f)[i]? = some c) (hi2 : i < 200) (hL : (elsR κ k (f + 1)).length ≤ 200)
    (hA : A = ((elsR κ k f).take i).flatMap (fun c => ((List.range k).filter (mayf κ c f)).map (fun s => 8 * c + s)))
    (hP : M0.1 (a0 + 2) i = nI c)
    (hkb : ∀ M', codp M' a0 (A ++ ((List.range k).filter (mayf κ c f)).map (fun s => 8 * c + s)) → M'.1 (a0 + 2) = M0.1 (a0 + 2) → fz a0 (a0 + 3) M0 M' → okp (kb (nI κ) (nI f) (nI k) (nI nP) (nI (i + 1)) M') Q) :
    ∀ (n s : Nat) (M : sm_M), k < n + s → s ≤ k → codp M a0 (A ++ ((List.range s).filter (mayf κ c f)).map (fun s => 8 * c + s)) → M.1 (a0 + 2) = M0.1 (a0 + 2) → fz a0 (a0 + 3) M0 M → okp (f_X1_lengthen_53 F a0 kb n (nI κ) (nI f) (nI k) (nI nP) (nI i) (nI (mskn (dg c) f)) (nI s) M) Q := by
  have hc : c < 32768 := pow_5 (elsR_lt hk (List.mem_of_getElem? hi)) (by omega)
  intro n
  induction n with
  | zero => intro s M h1 h2; omega
  | succ n ih =>
    intro s M h1 h2 h3 h4 h5
    show okp (f_X1_lengthen_53b F a0 kb (f_X1_lengthen_53 F a0 kb n) _ _ _ _ _ _ _ _) Q
    unfold f_X1_lengthen_53b f_X1_lengthen_111
    by_cases h : k ≤ s
    · have e : s = k := by omega
      subst e
      rw [if_pos (nI_le h (by omega)), nl_1, nI_add]
      exact hkb M h3 h4 h5
    · rw [if_neg (nI_ge (by omega) (by omega)), p_may hκ (by omega), Option.bind_some, nl_0, b_if]
      have er : List.range (s + 1) = List.range s ++ [s] := List.range_succ
      by_cases hm : mayf κ c f s = true
      · rw [if_pos hm]
        have hlen := pre_len (j := 0) hi (by omega) hm hL
        rw [← hA] at hlen
        have h6 := h3.1
        rw [h6, if_neg (by rw [nl_200]; exact nI_ge hlen (by omega)), h4, nI_clamp (by omega), hP, g_ib hi2 (by decide), p_withLast (by omega) (by omega), Option.bind_some, g_ib hlen (by decide), nI_clamp (by omega), mi_na (by omega), h6, nl_1, nI_add, nI_add]
        refine ih (s + 1) _ (by omega) (by omega) ?_ ?_ ?_
        · rw [er, List.filter_append, List.filter_cons_of_pos hm, List.filter_nil, List.map_append, ← List.append_assoc]
          exact codp_push h3 _ rfl _ rfl (by omega)
        · rw [mi_na (by omega), mi_na (by omega)]
          exact h4
        · exact fz_then (fz_then h5 (by omega) (by omega)) (by omega) (by omega)
      · rw [if_neg hm, nl_1, nI_add]
        refine ih (s + 1) _ (by omega) (by omega) ?_ h4 h5
        rw [er, List.filter_append, List.filter_cons_of_neg hm, List.filter_nil, List.append_nil]
        exact h3
theorem p_len_out {F a0 κ k f : Nat} {M0 : sm_M} (hκ : κ < 4) (hk : k ≤ 8) (hf : f < 5) (hF : 200 < F) (hL : (elsR κ k (f + 1)).length ≤ 200) (hL0 : (elsR κ k f).length ≤ 200)
    (hP : ∀ i c, (elsR κ k f)[i]? = some c → M0.1 (a0 + 2) i = nI c) :
    ∀ (n i : Nat) (M : sm_M), (elsR κ k f).length < n + i → i ≤ (elsR κ k f).length → codp M a0 (((elsR κ k f).take i).flatMap (fun c => ((List.range k).filter (mayf κ c f)).map (fun s => 8 * c + s))) → M.1 (a0 + 2) = M0.1 (a0 + 2) → fz a0 (a0 + 3) M0 M →
      okp (f_X1_lengthen_30 F a0 n (nI κ) (nI f) (nI k) (nI (elsR κ k f).length) (nI i) M) (fun M' => codp M' a0 (elsR κ k (f + 1)) ∧ fz a0 (a0 + 3) M0 M') := by
  intro n
  induction n with
  | zero => intro i M h1 h2; omega
  | succ n ih =>
    intro i M h1 h2 h3 h4 h5
    show okp (f_X1_lengthen_30b F a0 (f_X1_lengthen_30 F a0 n) _ _ _ _ _ _) _
    unfold f_X1_lengthen_30b
    by_cases h : (elsR κ k f).length ≤ i
    · rw [if_pos (nI_le h (by omega))]
      refine okp_some ⟨?_, h5⟩
      rw [List.take_of_length_le h] at h3
      exact h3
    · rw [if_neg (nI_ge (by omega) (by omega)), g_ib (by omega) (by decide), nI_clamp (by omega)]
      have hi : (elsR κ k f)[i]? = some ((elsR κ k f)[i]'(by omega)) := List.getElem?_eq_getElem (by omega)
      have hp := hP i _ hi
      have hc : (elsR κ k f)[i]'(by omega) < 32768 := pow_5 (elsR_lt hk (List.mem_of_getElem? hi)) (by omega)
      rw [h4, hp, p_nmask (by omega) (by omega) (by omega), Option.bind_some]
      refine p_len_in (M0 := M0) (A := ((elsR κ k f).take i).flatMap (fun c => ((List.range k).filter (mayf κ c f)).map (fun s => 8 * c + s))) hκ hk hf hi (by omega) hL rfl hp ?_ F 0 M (by omega) (by omega) ?_ h4 h5
      · intro M' b1 b2 b3
        refine ih (i + 1) M' (by omega) (by omega) ?_ b2 b3
        rw [List.take_succ_eq_append_getElem (by omega), List.flatMap_append, List.flatMap_cons, List.flatMap_nil, List.append_nil]
        exact b1
      · rw [List.range_zero, List.filter_nil, List.map_nil, List.append_nil]
        exact h3
theorem p_lengthen {F a0 κ k f : Nat} {M : sm_M} (hκ : κ < 4) (hk : k ≤ 8) (hf : f < 5) (hF : 200 < F) (hL : (elsR κ k (f + 1)).length ≤ 200) (hL0 : (elsR κ k f).length ≤ 200) (h : codp M a0 (elsR κ k f)) : okp (f_X1_lengthen F a0 (nI κ) (nI f) (nI k) M) (fun M' => codp M' a0 (elsR κ k (f + 1)) ∧ fz a0 (a0 + 3) M M') := by
  unfold f_X1_lengthen
  have e0 : (0 : Int32).toNatClampNeg = 0 := by decide
  have e1 : (200 : Int32).toNatClampNeg = 200 := by decide
  rw [g_t (by decide), e0, e1, mc_na (by omega), h.1]
  have f0 : fz a0 (a0 + 3) M (sm_mi (sm_mc M (a0 + 1) (a0 + 2) 0 0 200) a0 2 (0 : Int32)) := fz_then (fz_mc (by omega) (by omega)) (by omega) (by omega)
  refine okp_mono (p_len_out (M0 := sm_mi (sm_mc M (a0 + 1) (a0 + 2) 0 0 200) a0 2 (0 : Int32)) hκ hk hf hF hL hL0 ?_ F 0 _ (by omega) (by omega) ?_ rfl fz_refl) ?_
  · intro i c hi
    have : i < (elsR κ k f).length := (List.getElem?_eq_some_iff.mp hi).1
    rw [mi_na (by omega), mc_in (by omega)]
    exact h.2 i c hi
  · rw [List.take_zero, List.flatMap_nil]
    exact ⟨by rw [mi_eq]; rfl, fun i c hi => by cases hi⟩
  · rintro M' ⟨a1, a2⟩
    exact ⟨a1, fz_tr f0 a2 (by omega) (by omega) (by omega) (by omega)⟩
theorem p_cfill_l {F a0 κ k p : Nat} (hκ : κ < 4) (hk : k ≤ 8) (hp : p ≤ 5) (hF : 200 < F) (hL : ∀ f, f ≤ p → (elsR κ k f).length ≤ 200) : ∀ (n f : Nat) (M : sm_M), p < n + f → f ≤ p → codp M a0 (elsR κ k f) → okp (f_X1_fill_15 F a0 n (nI κ) (nI p) (nI k) (nI f) M) (fun M' => codp M' a0 (elsR κ k p) ∧ fz a0 (a0 + 3) M M') := by
  intro n
  induction n with
  | zero => intro f M h1 h2; omega
  | succ n ih =>
    intro f M h1 h2 h3
    show okp (f_X1_fill_15b F a0 (f_X1_fill_15 F a0 n) _ _ _ _ _) _
    unfold f_X1_fill_15b
    by_cases h : p ≤ f
    · have e : f = p := by omega
      subst e
      rw [if_pos (nI_le h (by omega))]
      exact okp_some ⟨h3, fz_refl⟩
    · rw [if_neg (nI_ge (by omega) (by omega)), nl_1, nI_add]
      refine okp_bind (p_lengthen hκ hk (by omega) hF (hL _ (by omega)) (hL _ (by omega)) h3) ?_
      rintro M1 ⟨a1, a2⟩
      refine okp_mono (ih (f + 1) M1 (by omega) (by omega) a1) ?_
      rintro M2 ⟨b1, b2⟩
      exact ⟨b1, fz_tr a2 b2 (by omega) (by omega) (by omega) (by omega)⟩
theorem p_cfill {F a0 κ k p : Nat} {M : sm_M} (hκ : κ < 4) (hk : k ≤ 8) (hp : p ≤ 5) (hF : 200 < F) (hL : ∀ f, f ≤ p → (elsR κ k f).length ≤ 200) : okp (f_X1_fill F a0 (nI κ) (nI p) (nI k) M) (fun M' => codp M' a0 (elsR κ k p) ∧ fz a0 (a0 + 3) M M') := by
  unfold f_X1_fill
  have e0 : (0 : Int32).toNatClampNeg = 0 := by decide
  refine okp_mono (p_cfill_l hκ hk hp hF hL F 0 _ (by omega) (by omega) ?_) ?_
  · rw [e0]
    refine ⟨by rw [mi_eq]; rfl, fun i c hi => ?_⟩
    rw [mi_na (by omega)]
    match i, hi with
    | 0, hi => cases hi; rw [mi_eq]; rfl
    | i + 1, hi => cases hi
  · rintro M' ⟨a1, a2⟩
    exact ⟨a1, fz_tr (fz_then (fz_mi (l := a0) (h := a0 + 3) (by omega) (by omega)) (by omega) (by omega)) a2 (by omega) (by omega) (by omega) (by omega)⟩
/-! the place of a code in a list -/
def idxo : List Nat → Nat → Option Nat
  | [], _ => none
  | x :: xs, c => bif Nat.beq x c then some 0 else (idxo xs c).map (· + 1)
def oI : Option Nat → Int32
  | none => mN
  | some e => nI e
def srt (L : List Nat) : Prop := ∀ (i j a b : Nat), i < j → L[i]? = some a → L[j]? = some b → a < b
theorem idxo_some : ∀ {L : List Nat} {c i : Nat}, idxo L c = some i → L[i]? = some c
  | [], c, i, h => by cases h
  | x :: xs, c, i, h => by
    unfold idxo at h
    cases hb : Nat.beq x c with
    | true =>
      rw [hb] at h
      cases h
      have : x = c := Nat.eq_of_beq_eq_true hb
      subst this
      rfl
    | false =>
      rw [hb] at h
      simp only [cond_false, Option.map_eq_some_iff] at h
      obtain ⟨j, h1, rfl⟩ := h
      rw [List.getElem?_cons_succ]
      exact idxo_some h1
theorem idxo_none : ∀ {L : List Nat} {c : Nat}, idxo L c = none → c ∉ L
  | [], c, h => by simp
  | x :: xs, c, h => by
    unfold idxo at h
    cases hb : Nat.beq x c with
    | true => rw [hb] at h; cases h
    | false =>
      rw [hb] at h
      simp only [cond_false, Option.map_eq_none_iff] at h
      have h1 := idxo_none h
      have h2 : x ≠ c := fun e => by rw [e, Nat.beq_refl] at hb; cases hb
      simp [h1, Ne.symm h2]
theorem idxo_at {L : List Nat} (hs : srt L) {c i : Nat} (h : L[i]? = some c) : idxo L c = some i := by
  cases e : idxo L c with
  | none => exact absurd (List.mem_of_getElem? h) (idxo_none e)
  | some j =>
    have h2 := idxo_some e
    rcases Nat.lt_trichotomy i j with q | q | q
    · have := hs i j c c q h h2
      omega
    · rw [q]
    · have := hs j i c c q h2 h
      omega
theorem idxo_not {L : List Nat} {c : Nat} (h : c ∉ L) : idxo L c = none := by
  cases e : idxo L c with
  | none => rfl
  | some j => exact absurd (List.mem_of_getElem? (idxo_some e)) h
theorem idxo_lt {L : List Nat} {c i : Nat} (h : idxo L c = some i) : i < L.length := (List.getElem?_eq_some_iff.mp (idxo_some h)).1
theorem p_index_l {F a0 c : Nat} {L : List Nat} {M : sm_M} (h : codp M a0 L) (hs : srt L) (hL : L.length ≤ 200) (hb : ∀ x, x ∈ L → x < 32768) (hc : c < 32768) : ∀ (n lo hi t : Nat), hi < n + lo → lo ≤ hi + 0 → hi ≤ L.length → hi + t ≤ 200 + lo → (∀ i x, L[i]? = some x → i < lo → x < c) → (∀ i x, L[i]? = some x → hi ≤ i → c < x) →
    f_X1_indexOf_12 F a0 n (nI c) (nI lo) (nI hi - nI 1) (nI t) M = some (oI (idxo L c)) := by
  intro n
  induction n with
  | zero => intro lo hi t h1 h2; omega
  | succ n ih =>
    intro lo hi t h1 h2 h3 ht h4 h5
    show f_X1_indexOf_12b F a0 (f_X1_indexOf_12 F a0 n) _ _ _ _ _ = _
    unfold f_X1_indexOf_12b f_X1_indexOf_70 f_X1_indexOf_76
    by_cases hlh : lo < hi
    · have e1 : nI hi - nI 1 = nI (hi - 1) := pk_sub (by omega)
      rw [e1, if_neg (by rw [nl_200]; exact nI_ge (by omega) (by omega)), if_neg (nI_nlt (by omega) (by omega)), nI_add, pk_shrN (by omega) _ 1 (by decide), g_ib (by omega) (by decide), g_ib (by omega) (by decide), nI_clamp (by omega)]
      generalize hmid : (lo + (hi - 1)) / 2 ^ 1 = mid
      have hm : lo ≤ mid ∧ mid < hi := by omega
      have hx : L[mid]? = some (L[mid]'(by omega)) := List.getElem?_eq_getElem (by omega)
      generalize L[mid]'(by omega) = x at hx
      have hxb := hb x (List.mem_of_getElem? hx)
      rw [h.2 mid x hx]
      simp (disch := omega) only [nI_eq, nI_leI]
      by_cases hxc : x = c
      · rw [if_pos hxc]
        subst hxc
        rw [idxo_at hs hx]
        rfl
      · rw [if_neg hxc]
        by_cases hle : c ≤ x
        · rw [if_pos hle, nl_1, nI_add]
          refine ih lo mid (t + 1) (by omega) (by omega) (by omega) (by omega) h4 (fun i y hy hi2 => ?_)
          rcases Nat.lt_or_ge mid i with q | q
          · have := hs mid i x y q hx hy
            omega
          · have : i = mid := by omega
            subst this
            rw [hx] at hy
            cases hy
            omega
        · rw [if_neg hle, nl_1, nI_add, nI_add, ← e1]
          refine ih (mid + 1) hi (t + 1) (by omega) (by omega) (by omega) (by omega) (fun i y hy hi2 => ?_) h5
          rcases Nat.lt_or_ge i mid with q | q
          · have := hs i mid y x q hy hx
            omega
          · have : i = mid := by omega
            subst this
            rw [hx] at hy
            cases hy
            omega
    · have e : lo = hi := by omega
      subst e
      have e9 : nI lo - nI 1 < nI lo := by
        rw [fa_lt, pk_sub_toInt (by omega) (by omega), nI_toInt (by omega)]
        omega
      rw [if_pos e9, ite_self, idxo_not]
      · rfl
      · intro hmem
        obtain ⟨i, hi⟩ := List.getElem?_of_mem hmem
        rcases Nat.lt_or_ge i lo with q | q
        · have := h4 i c hi q
          omega
        · have := h5 i c hi q
          omega
theorem p_index {F a0 c : Nat} {L : List Nat} {M : sm_M} (h : codp M a0 L) (hs : srt L) (hL : L.length ≤ 200) (hb : ∀ x, x ∈ L → x < 32768) (hc : c < 32768) (hF : 200 < F) : f_X1_indexOf F a0 (nI c) M = some (oI (idxo L c)) := by
  unfold f_X1_indexOf
  rw [h.1, nl_0, nl_1]
  exact p_index_l h hs hL hb hc F 0 L.length 0 (by omega) (by omega) (by omega) (by omega) (fun i x _ q => by omega) (fun i x hx q => by have := (List.getElem?_eq_some_iff.mp hx).1; omega)
