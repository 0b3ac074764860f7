/-! ===== the family: its spec, and the class's codes ===== -/
/-- the number at place i of a code, from the last place on -/
def dg (c i : Nat) : Nat := c / 2 ^ (3 * i) % 8
def mayf (κ c f s : Nat) : Bool := if κ = 0 then true else (List.range f).all (fun i => if κ = 3 then decide (dg c i < s) else decide (dg c i ≠ s))
def elsR (κ k : Nat) : Nat → List Nat
  | 0 => [0]
  | f + 1 => (elsR κ k f).flatMap (fun c => ((List.range k).filter (mayf κ c f)).map (fun s => 8 * c + s))
def kk (κ n k : Nat) : Nat := if κ = 1 then n else k
def szs (κ k i a : Nat) : Nat := if κ = 0 then a * k else if κ = 1 then a * (i + 1) else if κ = 2 then a * (k - i) else a * (k - i) / (i + 1)
def szl (κ k : Nat) : Nat → Nat → Nat → Nat
  | 0, _, a => a
  | r + 1, i, a => szl κ k r (i + 1) (szs κ k i a)
def okF (κ n k : Nat) : Bool := decide (κ < 4) && (decide (1 ≤ n) && (decide (n ≤ 5) && (decide (1 ≤ k) && (decide (k ≤ 8) && ((decide (κ = 0) || decide (n ≤ k)) && decide (szl κ k n 0 1 ≤ 200))))))
theorem okF_of {κ n k : Nat} (h : okF κ n k = true) : κ < 4 ∧ 1 ≤ n ∧ n ≤ 5 ∧ 1 ≤ k ∧ k ≤ 8 ∧ (κ = 0 ∨ n ≤ k) ∧ szl κ k n 0 1 ≤ 200 := by
  simpa [okF] using h
/-- what holds of all families -/
def famAll (P : Nat → Nat → Nat → Bool) : Bool := (List.range 4).all fun κ => (List.range 6).all fun n => (List.range 9).all fun k => !(okF κ n k) || P κ n k
theorem fam_of {P : Nat → Nat → Nat → Bool} (h : famAll P = true) {κ n k : Nat} (ho : okF κ n k = true) : P κ n k = true := by
  obtain ⟨h1, h2, h3, h4, h5, -, -⟩ := okF_of ho
  simp only [famAll, List.all_eq_true, List.mem_range] at h
  have := h κ h1 n (by omega) k (by omega)
  simpa [ho] using this
theorem fam_len0 : famAll (fun κ n k => (List.range 6).all fun f => decide (n < f) || decide ((elsR κ (kk κ n k) f).length ≤ 200)) = true := by decide +kernel
theorem fam_len {κ n k f : Nat} (ho : okF κ n k = true) (hf : f ≤ n) : (elsR κ (kk κ n k) f).length ≤ 200 := by
  have h := fam_of fam_len0 ho
  obtain ⟨h1, h2, h3, h4, h5, -, -⟩ := okF_of ho
  simp only [List.all_eq_true, List.mem_range, Bool.or_eq_true, decide_eq_true_eq] at h
  have := h f (by omega)
  omega
theorem fam_lenV0 : famAll (fun κ n k => decide (κ = 3) || (List.range 6).all fun f => decide (n - 1 < f) || decide ((elsR κ (kk κ (n - 1) k) f).length ≤ 120)) = true := by decide +kernel
theorem fam_lenV {κ n k f : Nat} (ho : okF κ n k = true) (h3 : κ ≠ 3) (hf : f ≤ n - 1) : (elsR κ (kk κ (n - 1) k) f).length ≤ 120 := by
  have h := fam_of fam_lenV0 ho
  obtain ⟨h1, h2, h9, h4, h5, -, -⟩ := okF_of ho
  simp only [Bool.or_eq_true, decide_eq_true_eq, h3, false_or, List.all_eq_true, List.mem_range] at h
  have := h f (by omega)
  omega
theorem kk_le {κ n k : Nat} (ho : okF κ n k = true) : kk κ n k ≤ 8 ∧ kk κ (n - 1) k ≤ 8 := by
  obtain ⟨h1, h2, h3, h4, h5, -, -⟩ := okF_of ho
  unfold kk
  split <;> omega
theorem elsR_lt {κ k : Nat} (hk : k ≤ 8) : ∀ {f c : Nat}, c ∈ elsR κ k f → c < 8 ^ f
  | 0, c, h => by
    simp only [elsR, List.mem_singleton] at h
    subst h
    decide
  | f + 1, c, h => by
    simp only [elsR, List.mem_flatMap, List.mem_map, List.mem_filter, List.mem_range] at h
    obtain ⟨c', h1, s, ⟨h2, -⟩, rfl⟩ := h
    have := elsR_lt hk h1
    rw [Nat.pow_succ]
    omega
theorem pow_5 {f c : Nat} (h : c < 8 ^ f) (hf : f ≤ 5) : c < 32768 := Nat.lt_of_lt_of_le h (Nat.pow_le_pow_right (by decide) hf)
/-! codes in memory -/
def codp (M : sm_M) (a : Nat) (L : List Nat) : Prop := M.1 a 2 = nI L.length ∧ ∀ i c, L[i]? = some c → M.1 (a + 1) i = nI c
theorem codp_c {M M' : sm_M} {a : Nat} {L : List Nat} (h : codp M a L) (e1 : M'.1 a 2 = M.1 a 2) (e2 : M'.1 (a + 1) = M.1 (a + 1)) : codp M' a L := ⟨by rw [e1]; exact h.1, fun i c hi => by rw [e2]; exact h.2 i c hi⟩
theorem codp_f {M M' : sm_M} {a lo hi : Nat} {L : List Nat} (h : codp M a L) (f : fz lo hi M M') (e : a + 1 < lo ∨ hi ≤ a) : codp M' a L := codp_c h (by rw [fz_1 f (by omega)]) (fz_1 f (by omega))
theorem codp_push {M : sm_M} {a x : Nat} {L : List Nat} (h : codp M a L) (v : Int32) (hv : v = nI x) (w : Int32) (hw : w = nI (L.length + 1)) (hl : L.length < 2 ^ 31) : codp (sm_mi (sm_mi M (a + 1) L.length v) a 2 w) a (L ++ [x]) := by
  subst hv hw
  refine ⟨?_, fun i c hi => ?_⟩
  · rw [mi_eq, List.length_append]
    rfl
  · rw [mi_na (by omega)]
    by_cases e : i = L.length
    · subst e
      rw [List.getElem?_concat_length] at hi
      cases hi
      rw [mi_eq]
    · rw [mi_ni e]
      apply h.2
      have : i < L.length := by
        have := (List.getElem?_eq_some_iff.mp hi).1
        rw [List.length_append] at this
        simp at this
        omega
      rwa [List.getElem?_append_left this] at hi
theorem p_wl {c s : Nat} (hc : c < 2 ^ 27) (hs : s < 8) : (nI c <<< ((3 : Int32) &&& 31)) ||| nI s = nI (8 * c + s) := by
  rw [pk_shlN _ 3 (by decide) (by omega)]
  have e : c * 2 ^ 3 = 2 ^ 3 * c := Nat.mul_comm _ _
  rw [e, fa_or_sum c (by omega)]
theorem p_withLast {F c s : Nat} {M : sm_M} (hc : c < 2 ^ 27) (hs : s < 8) : f_X1_withLast F (nI c) (nI s) M = some (nI (8 * c + s)) := by
  unfold f_X1_withLast
  rw [p_wl hc hs]
theorem s_3i : ∀ i, i < 8 → ((nI (3 * i) &&& 31).toBitVec.smod 32).toNat = 3 * i := fun i hi => co_dec (P := fun i => ((nI (3 * i) &&& 31).toBitVec.smod 32).toNat = 3 * i) (N := 8) (by decide +kernel) hi
theorem s_i : ∀ i, i < 32 → ((nI i &&& 31).toBitVec.smod 32).toNat = i := fun i hi => co_dec (P := fun i => ((nI i &&& 31).toBitVec.smod 32).toNat = i) (N := 32) (by decide +kernel) hi
theorem p_dg {c i : Nat} (hc : c < 2 ^ 31) (hi : i < 8) : (nI c >>> (nI (3 * i) &&& 31)) &&& nI 7 = nI (dg c i) := by
  rw [pk_shrN hc _ (3 * i) (s_3i i hi), pk_andN (Nat.lt_of_le_of_lt (Nat.div_le_self _ _) (by omega)) 3 (by decide)]
  rfl
theorem dg_lt (c i : Nat) : dg c i < 8 := Nat.mod_lt _ (by decide)
theorem p_nmask_l {F c f : Nat} {M : sm_M} (hc : c < 2 ^ 31) (hf : f ≤ 6) : ∀ (n i : Nat), f < n + i → i ≤ f → f_X1_numberMask_4 F n (nI c) (nI f) (nI (mskn (dg c) i)) (nI i) M = some (nI (mskn (dg c) f)) := by
  intro n
  induction n with
  | zero => intro i h1 h2; omega
  | succ n ih =>
    intro i h1 h2
    show f_X1_numberMask_4b F (f_X1_numberMask_4 F n) _ _ _ _ _ = _
    unfold f_X1_numberMask_4b
    by_cases h : f ≤ i
    · have e : i = f := by omega
      subst e
      rw [if_pos (nI_le h (by omega))]
    · rw [if_neg (nI_ge (by omega) (by omega))]
      simp only [nl_3, nl_1, nl_7, pk_mul, p_dg hc (show i < 8 by omega), sh_1 _ (dg_lt c i), fa_or, nI_add]
      exact ih (i + 1) (by omega) (by omega)
theorem p_nmask {F c f : Nat} {M : sm_M} (hc : c < 2 ^ 31) (hf : f ≤ 6) (hF : 6 < F) : f_X1_numberMask F (nI c) (nI f) M = some (nI (mskn (dg c) f)) := p_nmask_l hc hf F 0 (by omega) (by omega)
theorem msk_div {w : Nat → Nat} {f s : Nat} : mskn w f / 2 ^ s = 0 ↔ ∀ i, i < f → w i < s := by
  rw [Nat.div_eq_zero_iff]
  have hp : 2 ^ s ≠ 0 := Nat.ne_of_gt (Nat.pow_pos (by decide))
  constructor
  · intro h i hi
    rcases h with h | h
    · exact absurd h hp
    · apply Nat.lt_of_not_le
      intro hs
      have h1 : (mskn w f).testBit (w i) = true := mskn_bit.mpr ⟨i, hi, rfl⟩
      have h2 := Nat.testBit_lt_two_pow (Nat.lt_of_lt_of_le h (Nat.pow_le_pow_right (by decide) hs))
      rw [h2] at h1
      cases h1
  · intro h
    right
    apply Nat.lt_pow_two_of_testBit
    intro t ht
    cases hb : (mskn w f).testBit t with
    | false => rfl
    | true =>
      obtain ⟨i, hi, e⟩ := mskn_bit.mp hb
      have := h i hi
      omega
theorem p_may {F κ c f s : Nat} {M : sm_M} (hκ : κ < 4) (hs : s < 8) : f_X1_mayFollow F (nI κ) (nI (mskn (dg c) f)) (nI s) M = some (if mayf κ c f s = true then nI 1 else nI 0) := by
  have hm : mskn (dg c) f < 256 := mskn_lt (fun i _ => dg_lt c i)
  unfold f_X1_mayFollow f_X1_mayFollow_38
  rw [nl_0, nl_1, nl_3, pk_shrN (by omega) _ s (s_i s (by omega))]
  have hd : mskn (dg c) f / 2 ^ s < 2 ^ 31 := Nat.lt_of_le_of_lt (Nat.div_le_self _ _) (by omega)
  have hb : nI (mskn (dg c) f / 2 ^ s) &&& nI 1 = nI (mskn (dg c) f / 2 ^ s % 2) := by
    rw [pk_andN (by omega) 1 (by decide)]
  rw [hb]
  simp (disch := omega) only [nI_eq, g_b0, g_b1]
  unfold mayf
  by_cases h0 : κ = 0
  · rw [if_pos h0, if_pos h0, if_pos rfl]
  · rw [if_neg h0, if_neg h0]
    by_cases h3 : κ = 3
    · rw [if_pos h3]
      simp only [if_pos h3, List.all_eq_true, List.mem_range, decide_eq_true_eq, msk_div]
      split <;> rfl
    · rw [if_neg h3]
      simp only [if_neg h3, List.all_eq_true, List.mem_range, decide_eq_true_eq]
      have e : mskn (dg c) f / 2 ^ s % 2 = 0 ↔ ∀ i, i < f → dg c i ≠ s := by
        have e1 : (mskn (dg c) f).testBit s = decide (mskn (dg c) f / 2 ^ s % 2 = 1) := Nat.testBit_eq_decide_div_mod_eq
        constructor
        · intro h i hi e9
          have : (mskn (dg c) f).testBit s = true := mskn_bit.mpr ⟨i, hi, e9⟩
          rw [e1] at this
          simp at this
          omega
        · intro h
          cases hb2 : (mskn (dg c) f).testBit s with
          | true =>
            obtain ⟨i, hi, e⟩ := mskn_bit.mp hb2
            exact absurd e (h i hi)
          | false =>
            rw [e1] at hb2
            simp at hb2
            omega
      simp only [e]
      split <;> rfl
