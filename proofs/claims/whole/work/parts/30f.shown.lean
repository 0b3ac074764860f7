/-! ===== elements as a filtered range; windows; what the class says they show ===== -/
def isK (κ k : Nat) : Nat → Nat → Bool
  | 0, _ => true
  | f + 1, c => isK κ k f (c / 8) && (decide (c % 8 < k) && mayf κ (c / 8) f (c % 8))
theorem rg_mul : ∀ m, List.range (8 * m) = (List.range m).flatMap (fun c => (List.range 8).map (fun s => 8 * c + s))
  | 0 => rfl
  | m + 1 => by
    rw [Nat.mul_succ, List.range_add, List.range_succ (n := m), List.flatMap_append, ← rg_mul m, List.flatMap_cons, List.flatMap_nil, List.append_nil]
theorem rg_filter {k : Nat} (hk : k ≤ 8) (q : Nat → Bool) : (List.range 8).filter (fun s => decide (s < k) && q s) = (List.range k).filter q := by
  have e : List.range 8 = List.range k ++ (List.range (8 - k)).map (k + ·) := by
    rw [← List.range_add]
    congr 1
    omega
  rw [e, List.filter_append]
  have e1 : (List.range k).filter (fun s => decide (s < k) && q s) = (List.range k).filter q := by
    apply List.filter_congr
    intro x hx
    have := List.mem_range.mp hx
    simp [this]
  have e2 : ((List.range (8 - k)).map (k + ·)).filter (fun s => decide (s < k) && q s) = [] := by
    apply List.filter_eq_nil_iff.mpr
    intro x hx
    obtain ⟨y, -, rfl⟩ := List.mem_map.mp hx
    have : ¬ (k + y < k) := by omega
    simp [this]
  rw [e1, e2, List.append_nil]
theorem fm_if {α β : Type} (p : α → Bool) (g : α → List β) : ∀ l : List α, l.flatMap (fun c => if p c = true then g c else []) = (l.filter p).flatMap g
  | [] => rfl
  | x :: xs => by
    rw [List.flatMap_cons, fm_if p g xs]
    by_cases h : p x = true
    · rw [if_pos h, List.filter_cons_of_pos h, List.flatMap_cons]
    · rw [if_neg h, List.filter_cons_of_neg h, List.nil_append]
theorem elsR_eq {κ k : Nat} (hk : k ≤ 8) : ∀ f, elsR κ k f = (List.range (8 ^ f)).filter (isK κ k f)
  | 0 => rfl
  | f + 1 => by
    rw [Nat.pow_succ, Nat.mul_comm, rg_mul, List.filter_flatMap, elsR, elsR_eq hk f, ← fm_if]
    congr 1
    funext c
    rw [List.filter_map]
    have e : (List.range 8).filter (isK κ k (f + 1) ∘ fun s => 8 * c + s) = (List.range 8).filter (fun s => decide (s < k) && (isK κ k f c && mayf κ c f s)) := by
      apply List.filter_congr
      intro s hs
      have hs := List.mem_range.mp hs
      have e1 : (8 * c + s) / 8 = c := by omega
      have e2 : (8 * c + s) % 8 = s := by omega
      simp only [Function.comp, isK, e1, e2]
      cases isK κ k f c <;> simp
    rw [e, rg_filter hk]
    by_cases h : isK κ k f c = true
    · rw [if_pos h]
      simp only [h, Bool.true_and]
    · rw [if_neg h]
      have h' : isK κ k f c = false := by simpa using h
      simp [h']
theorem srt_filter (N : Nat) (P : Nat → Bool) : srt ((List.range N).filter P) := by
  intro i j a b hij ha hb
  have hp : List.Pairwise (· < ·) ((List.range N).filter P) := List.Pairwise.filter P List.pairwise_lt_range
  rw [List.pairwise_iff_getElem] at hp
  obtain ⟨h1, rfl⟩ := List.getElem?_eq_some_iff.mp ha
  obtain ⟨h2, rfl⟩ := List.getElem?_eq_some_iff.mp hb
  exact hp i j h1 h2 hij
theorem srt_els {κ k : Nat} (hk : k ≤ 8) (f : Nat) : srt (elsR κ k f) := by
  rw [elsR_eq hk]
  exact srt_filter _ _
theorem idxo_filter {N c : Nat} {P : Nat → Bool} (hc : c < N) : idxo ((List.range N).filter P) c = if P c = true then some ((List.range c).filter P).length else none := by
  by_cases h : P c = true
  · rw [if_pos h]
    apply idxo_at (srt_filter N P)
    have e : List.range N = List.range c ++ (c :: List.range' (c + 1) (N - c - 1)) := by
      have : N = c + (1 + (N - c - 1)) := by omega
      conv => lhs; rw [this]
      rw [List.range_eq_range', List.range_eq_range', ← List.range'_append_1, Nat.zero_add, ← List.range'_append_1]
      rfl
    rw [e, List.filter_append, List.filter_cons_of_pos h, List.getElem?_append_right (Nat.le_refl _), Nat.sub_self]
    rfl
  · rw [if_neg h]
    apply idxo_not
    intro hm
    exact h (List.mem_filter.mp hm).2
def els (κ n k : Nat) : List Nat := elsR κ (kk κ n k) n
def vts (κ n k : Nat) : List Nat := elsR κ (kk κ (n - 1) k) (n - 1)
theorem els_ok {κ n k : Nat} (ho : okF κ n k = true) : srt (els κ n k) ∧ (els κ n k).length ≤ 200 ∧ ∀ x, x ∈ els κ n k → x < 8 ^ n := ⟨srt_els (kk_le ho).1 n, fam_len ho (Nat.le_refl _), fun _ hx => elsR_lt (kk_le ho).1 hx⟩
theorem vts_ok {κ n k : Nat} (ho : okF κ n k = true) (h3 : κ ≠ 3) : srt (vts κ n k) ∧ (vts κ n k).length ≤ 120 ∧ ∀ x, x ∈ vts κ n k → x < 8 ^ (n - 1) := ⟨srt_els (kk_le ho).2 _, fam_lenV ho h3 (Nat.le_refl _), fun _ hx => elsR_lt (kk_le ho).2 hx⟩
/-! windows -/
def wc (w : Nat → Nat) : Nat → Nat
  | 0 => 0
  | i + 1 => 8 * wc w i + w i
theorem wc_lt {w : Nat → Nat} : ∀ {n : Nat}, (∀ i, i < n → w i < 8) → wc w n < 8 ^ n
  | 0, _ => Nat.zero_lt_succ _
  | n + 1, h => by
    have h1 := wc_lt (n := n) (fun i hi => h i (by omega))
    have h2 := h n (by omega)
    rw [wc, Nat.pow_succ]
    omega
theorem wc_cong {w w' : Nat → Nat} : ∀ {n : Nat}, (∀ i, i < n → w i = w' i) → wc w n = wc w' n
  | 0, _ => rfl
  | n + 1, h => by rw [wc, wc, wc_cong (n := n) (fun i hi => h i (by omega)), h n (by omega)]
theorem dg_0 {a b : Nat} (hb : b < 8) : dg (8 * a + b) 0 = b := by
  unfold dg
  rw [Nat.mul_zero, Nat.pow_zero, Nat.div_one]
  omega
theorem dg_s {a b i : Nat} (hb : b < 8) : dg (8 * a + b) (i + 1) = dg a i := by
  unfold dg
  have e : 2 ^ (3 * (i + 1)) = 8 * 2 ^ (3 * i) := by
    rw [Nat.mul_succ, Nat.pow_add, Nat.mul_comm]
  rw [e, ← Nat.div_div_eq_div_mul]
  have e2 : (8 * a + b) / 8 = a := by omega
  rw [e2]
theorem dg_wc {w : Nat → Nat} : ∀ {n i : Nat}, (∀ j, j < n → w j < 8) → i < n → dg (wc w n) i = w (n - 1 - i)
  | 0, i, _, h => by omega
  | n + 1, 0, h, _ => by
    rw [wc, dg_0 (h n (by omega))]
    rfl
  | n + 1, i + 1, h, hi => by
    rw [wc, dg_s (h n (by omega)), dg_wc (n := n) (fun j hj => h j (by omega)) (by omega)]
    congr 1
    omega
theorem msk_eq {w w' : Nat → Nat} {n n' : Nat} (h : ∀ t, (∃ i, i < n ∧ w i = t) ↔ (∃ i, i < n' ∧ w' i = t)) : mskn w n = mskn w' n' := by
  apply Nat.eq_of_testBit_eq
  intro t
  rw [Bool.eq_iff_iff, mskn_bit, mskn_bit]
  exact h t
theorem msk_wc {w : Nat → Nat} {n : Nat} (h : ∀ j, j < n → w j < 8) : mskn (dg (wc w n)) n = mskn w n := by
  apply msk_eq
  intro t
  constructor
  · rintro ⟨i, hi, e⟩
    rw [dg_wc h hi] at e
    exact ⟨n - 1 - i, by omega, e⟩
  · rintro ⟨i, hi, e⟩
    refine ⟨n - 1 - i, by omega, ?_⟩
    rw [dg_wc h (by omega), ← e]
    congr 1
    omega
theorem popn_or {m v : Nat} : ∀ t, popn (m ||| 2 ^ v) t = popn m t + (if v < t ∧ m.testBit v = false then 1 else 0)
  | 0 => by simp [popn]
  | t + 1 => by
    rw [popn, popn, popn_or t, Nat.testBit_or, Nat.testBit_two_pow]
    by_cases e : v = t
    · subst e
      cases hb : m.testBit v <;> simp
    · have e2 : (v < t + 1 ∧ m.testBit v = false) ↔ (v < t ∧ m.testBit v = false) := by
        constructor
        · rintro ⟨a, b⟩; exact ⟨by omega, b⟩
        · rintro ⟨a, b⟩; exact ⟨by omega, b⟩
      simp only [e2, e, decide_false, Bool.or_false]
      omega
theorem popn_le (m : Nat) : ∀ t, popn m t ≤ t
  | 0 => Nat.le_refl _
  | t + 1 => by
    have := popn_le m t
    rw [popn]
    split <;> omega
def dist (w : Nat → Nat) (n : Nat) : Prop := ∀ i j, i < j → j < n → w i ≠ w j
theorem dist_s {w : Nat → Nat} {n : Nat} : dist w (n + 1) ↔ dist w n ∧ ∀ i, i < n → w i ≠ w n := by
  constructor
  · intro h
    exact ⟨fun i j a b => h i j a (by omega), fun i hi => h i n hi (by omega)⟩
  · rintro ⟨h1, h2⟩ i j a b
    by_cases e : j = n
    · subst e
      exact h2 i a
    · exact h1 i j a (by omega)
theorem msk_new {w : Nat → Nat} {n : Nat} : (mskn w n).testBit (w n) = false ↔ ∀ i, i < n → w i ≠ w n := by
  rw [← Bool.not_eq_true, mskn_bit]
  constructor
  · intro h i hi e
    exact h ⟨i, hi, e⟩
  · rintro h ⟨i, hi, e⟩
    exact h i hi e
theorem pop_dist {w : Nat → Nat} : ∀ {n : Nat}, (∀ i, i < n → w i < 8) → popn (mskn w n) 8 ≤ n ∧ (popn (mskn w n) 8 = n ↔ dist w n)
  | 0, _ => ⟨Nat.le_of_eq (by simp [mskn, popn]), ⟨fun _ i j _ h => by omega, fun _ => by simp [mskn, popn]⟩⟩
  | n + 1, h => by
    have ih := pop_dist (n := n) (fun i hi => h i (by omega))
    have hw := h n (by omega)
    rw [mskn, popn_or, dist_s, ← ih.2, ← msk_new]
    by_cases hb : (mskn w n).testBit (w n) = false
    · rw [if_pos ⟨hw, hb⟩]
      refine ⟨by omega, ⟨fun e => ⟨by omega, hb⟩, fun e => by omega⟩⟩
    · rw [if_neg (fun q => hb q.2)]
      exact ⟨by omega, ⟨fun e => by omega, fun e => absurd e.2 hb⟩⟩
theorem pop_rank {w : Nat → Nat} {t : Nat} : ∀ {n : Nat}, dist w n → popn (mskn w n) t = fb_ct (fun j => decide (w j < t)) n
  | 0, _ => by
    show popn 0 t = 0
    induction t with
    | zero => rfl
    | succ t ih => rw [popn, ih, Nat.zero_testBit]; rfl
  | n + 1, h => by
    obtain ⟨h1, h2⟩ := dist_s.mp h
    rw [mskn, popn_or, pop_rank h1, fb_ct_succ]
    have := msk_new.mpr h2
    simp only [this, and_true, decide_eq_true_eq]
/-- the ranks of a window -/
def rnk (w : Nat → Nat) (n i : Nat) : Nat := fb_ct (fun j => decide (w j < w i)) n
/-- the code of the set of bits below t -/
def ascn (m : Nat) : Nat → Nat
  | 0 => 0
  | t + 1 => if m.testBit t = true then 8 * ascn m t + t else ascn m t
def shc (κ n : Nat) (w : Nat → Nat) : Nat := if κ = 1 then wc (rnk w n) n else if κ = 3 then ascn (mskn w n) 8 else wc w n
def dstb (w : Nat → Nat) (n : Nat) : Bool := Nat.beq (popn (mskn w n) 8) n
/-- what a window shows -/
def shw (κ n k : Nat) (w : Nat → Nat) : Option Nat := if κ = 0 ∨ dstb w n = true then idxo (els κ n k) (shc κ n w) else none
theorem dstb_iff {w : Nat → Nat} {n : Nat} (h : ∀ i, i < n → w i < 8) : dstb w n = true ↔ dist w n := by
  rw [← (pop_dist h).2]
  unfold dstb
  exact ⟨Nat.eq_of_beq_eq_true, fun e => by rw [e]; exact Nat.beq_refl _⟩
theorem shw_lt {κ n k e : Nat} {w : Nat → Nat} (h : shw κ n k w = some e) : e < (els κ n k).length := by
  unfold shw at h
  split at h
  · exact idxo_lt h
  · cases h
theorem shc_cong {κ n : Nat} {w w' : Nat → Nat} (h : ∀ i, i < n → w i = w' i) : shc κ n w = shc κ n w' := by
  unfold shc
  have e1 : wc (rnk w n) n = wc (rnk w' n) n := wc_cong (fun i hi => by
    unfold rnk
    apply fb_ct_cong
    intro j hj
    rw [h i hi, h j hj])
  rw [e1, mskn_cong h, wc_cong h]
theorem shw_cong {κ n k : Nat} {w w' : Nat → Nat} (h : ∀ i, i < n → w i = w' i) : shw κ n k w = shw κ n k w' := by
  unfold shw dstb
  rw [shc_cong h, mskn_cong h]
theorem rnk_lt {w : Nat → Nat} {n i : Nat} (hi : i < n) (hn : n ≤ 5) : rnk w n i < 8 := by
  have := fb_ct_le (fun j => decide (w j < w i)) n
  unfold rnk
  omega
theorem ascn_lt (m : Nat) : ∀ t, ascn m t < 8 ^ popn m t ∨ 8 < t
  | 0 => Or.inl (by simp [ascn, popn])
  | t + 1 => by
    rcases ascn_lt m t with h | h
    · by_cases ht : t < 8
      · left
        rw [ascn, popn]
        by_cases b : m.testBit t = true
        · rw [if_pos b, if_pos b, Nat.pow_succ]
          omega
        · rw [if_neg b, if_neg b]
          exact h
      · right; omega
    · right; omega
theorem shc_lt {κ n : Nat} {w : Nat → Nat} (h : ∀ i, i < n → w i < 8) (hn : n ≤ 5) (hd : κ = 0 ∨ dstb w n = true) : shc κ n w < 8 ^ n := by
  unfold shc
  split
  · exact wc_lt (fun i hi => rnk_lt hi hn)
  · split
    · rcases ascn_lt (mskn w n) 8 with q | q
      · have := (pop_dist h).1
        exact Nat.lt_of_lt_of_le q (Nat.pow_le_pow_right (by decide) this)
      · omega
    · exact wc_lt h
/-! the class -/
theorem bc_low : ∀ m, m < 256 → ∀ t, t < 8 → bc_x (nI m &&& ((nI 1 <<< (nI t &&& 31)) - nI 1)) = nI (popn m t) := fun m hm t ht =>
  co_dec (P := fun t => bc_x (nI m &&& ((nI 1 <<< (nI t &&& 31)) - nI 1)) = nI (popn m t)) (N := 8) (co_dec (P := fun m => (List.range 8).all (fun t => decide (bc_x (nI m &&& ((nI 1 <<< (nI t &&& 31)) - nI 1)) = nI (popn m t))) = true) (N := 256) (by decide +kernel) hm) ht
theorem p_bcl {F m t : Nat} {M : sm_M} (h : m < 256) (ht : t < 8) : f_J6_bitCount_0f7a4 F (nI m &&& ((nI 1 <<< (nI t &&& 31)) - nI 1)) M = some (nI (popn m t)) := by
  rw [← bc_low m h t ht]
  rfl
theorem p_numAt {F c p i : Nat} {M : sm_M} (hc : c < 2 ^ 31) (hp : p ≤ 6) (hi : i < p) : f_X1_numberAt F (nI c) (nI p) (nI i) M = some (nI (dg c (p - 1 - i))) := by
  unfold f_X1_numberAt
  rw [nl_1, nl_3, nl_7, pk_sub (by omega), pk_sub (by omega), pk_mul, p_dg hc (by omega)]
theorem p_ord_l {F c p : Nat} {M : sm_M} (hc : c < 2 ^ 31) (hp : p ≤ 5) : ∀ (n i : Nat), p < n + i → i ≤ p → f_X1_orderPattern_11 F n (nI c) (nI p) (nI (mskn (dg c) p)) (nI (wc (fun i => popn (mskn (dg c) p) (dg c (p - 1 - i))) i)) (nI i) M = some (nI (wc (fun i => popn (mskn (dg c) p) (dg c (p - 1 - i))) p)) := by
  have hm : mskn (dg c) p < 256 := mskn_lt (fun i _ => dg_lt c i)
  intro n
  induction n with
  | zero => intro i h1 h2; omega
  | succ n ih =>
    intro i h1 h2
    show f_X1_orderPattern_11b F (f_X1_orderPattern_11 F n) _ _ _ _ _ _ = _
    unfold f_X1_orderPattern_11b
    by_cases h : p ≤ i
    · have e : i = p := by omega
      subst e
      rw [if_pos (nI_le h (by omega))]
    · have hw : wc (fun i => popn (mskn (dg c) p) (dg c (p - 1 - i))) i < 8 ^ i := wc_lt (fun j _ => Nat.lt_of_le_of_lt (popn_le _ _) (dg_lt _ _))
      have hw2 := pow_5 hw (by omega)
      rw [if_neg (nI_ge (by omega) (by omega)), p_numAt hc (by omega) (by omega), Option.bind_some, nl_1, p_bcl hm (dg_lt _ _), Option.bind_some, p_withLast (by omega) (Nat.lt_of_le_of_lt (popn_le _ _) (dg_lt _ _)), Option.bind_some, nI_add]
      exact ih (i + 1) (by omega) (by omega)
theorem p_ord {F c p : Nat} {M : sm_M} (hc : c < 2 ^ 31) (hp : p ≤ 5) (hF : 6 < F) : f_X1_orderPattern F (nI c) (nI p) M = some (nI (wc (fun i => popn (mskn (dg c) p) (dg c (p - 1 - i))) p)) := by
  unfold f_X1_orderPattern
  rw [p_nmask hc (by omega) hF, Option.bind_some]
  exact p_ord_l hc hp F 0 (by omega) (by omega)
theorem ord_wc {w : Nat → Nat} {n : Nat} (h : ∀ j, j < n → w j < 8) (hd : dist w n) : wc (fun i => popn (mskn (dg (wc w n)) n) (dg (wc w n) (n - 1 - i))) n = wc (rnk w n) n := by
  apply wc_cong
  intro i hi
  rw [msk_wc h, dg_wc h (by omega), pop_rank hd]
  have e : n - 1 - (n - 1 - i) = i := by omega
  rw [e]
  rfl
theorem p_asc_l {F m : Nat} {M : sm_M} (hm : m < 256) (hp : popn m 8 ≤ 5) : ∀ (n t : Nat), 8 < n + t → t ≤ 8 → f_X1_ascending_4 F n (nI m) (nI (ascn m t)) (nI t) M = some (nI (ascn m 8)) := by
  have mono : ∀ t, t ≤ 8 → popn m t ≤ popn m 8 := by
    have : ∀ d t, popn m t ≤ popn m (t + d) := by
      intro d
      induction d with
      | zero => intro t; exact Nat.le_refl _
      | succ d ih => intro t; rw [← Nat.add_assoc, popn]; have := ih t; omega
    intro t ht
    have h := this (8 - t) t
    rwa [Nat.add_sub_cancel' ht] at h
  intro n
  induction n with
  | zero => intro i h1 h2; omega
  | succ n ih =>
    intro t h1 h2
    show f_X1_ascending_4b F (f_X1_ascending_4 F n) _ _ _ _ = _
    unfold f_X1_ascending_4b f_X1_ascending_25
    by_cases h : 7 < t
    · have e : t = 8 := by omega
      subst e
      rw [nl_7, if_pos (nI_lt h (by omega))]
    · rw [nl_7, if_neg (nI_nlt (by omega) (by omega)), nl_1, pk_shrN (by omega) _ t (s_i t (by omega)), pk_andN (Nat.lt_of_le_of_lt (Nat.div_le_self _ _) (by omega)) 1 (by decide)]
      have hlt : m / 2 ^ t % 2 ^ 1 < 2 := Nat.mod_lt _ (by decide)
      simp (disch := omega) only [nI_eq, nI_add]
      have hb : m.testBit t = decide (m / 2 ^ t % 2 ^ 1 = 1) := Nat.testBit_eq_decide_div_mod_eq
      have ih1 := ih (t + 1) (by omega) (by omega)
      rw [ascn, hb] at ih1
      simp only [decide_eq_true_eq] at ih1
      have hs : ascn m t < 8 ^ 5 := by
        rcases ascn_lt m t with q | q
        · exact Nat.lt_of_lt_of_le q (Nat.pow_le_pow_right (by decide) (Nat.le_trans (mono t h2) hp))
        · omega
      by_cases c : m / 2 ^ t % 2 ^ 1 = 1
      · rw [if_pos c] at ih1 ⊢
        rw [p_withLast (Nat.lt_trans hs (by decide)) (by omega), Option.bind_some]
        exact ih1
      · rw [if_neg c] at ih1 ⊢
        exact ih1
theorem p_asc {F m : Nat} {M : sm_M} (hm : m < 256) (hp : popn m 8 ≤ 5) (hF : 8 < F) : f_X1_ascending F (nI m) M = some (nI (ascn m 8)) := p_asc_l hm hp F 0 (by omega) (by omega)
def famp (M : sm_M) (κ n k : Nat) : Prop := M.1 1 1 = nI κ ∧ M.1 1 2 = nI n ∧ M.1 1 3 = nI k ∧ codp M 2 (els κ n k)
theorem famp_f {M M' : sm_M} {κ n k lo hi : Nat} (h : famp M κ n k) (f : fz lo hi M M') (e : 4 ≤ lo ∨ hi ≤ 1) : famp M' κ n k := by
  have e1 : M'.1 1 = M.1 1 := fz_1 f (by omega)
  unfold famp
  rw [e1]
  exact ⟨h.1, h.2.1, h.2.2.1, codp_f h.2.2.2 f (by omega)⟩
theorem p_shown_e {F a1 κ n k : Nat} {w : Nat → Nat} {kb : Int32 → Int32 → Int32 → sm_M → Option Int32} {x2 : Int32} {M : sm_M} (ho : okF κ n k = true) (hf : famp M κ n k) (hw : ∀ i, i < n → w i < 8) (hF : 200 < F) : f_X2_shownBy_5b F a1 kb x2 (nI (wc w n)) (nI n) M = some (oI (shw κ n k w)) := by
  obtain ⟨h1, h2, h3, h4, h5, -, -⟩ := okF_of ho
  obtain ⟨f1, f2, f3, f4⟩ := hf
  obtain ⟨e1, e2, e3⟩ := els_ok ho
  have e4 : ∀ x, x ∈ els κ n k → x < 32768 := fun x hx => pow_5 (e3 x hx) h3
  have hwc : wc w n < 32768 := pow_5 (wc_lt hw) h3
  unfold f_X2_shownBy_5b
  rw [f2, if_pos (nI_le (Nat.le_refl _) (by omega)), f1, nl_0, nl_1, nl_3]
  simp (disch := omega) only [nI_eq]
  by_cases h0 : κ = 0
  · rw [if_pos h0, p_index f4 e1 e2 e4 hwc hF, Option.bind_some]
    unfold shw shc
    rw [if_pos (Or.inl h0), if_neg (by omega), if_neg (by omega)]
  · have hm : mskn w n < 256 := mskn_lt hw
    rw [if_neg h0, p_nmask (by omega) (by omega) (by omega), msk_wc hw, Option.bind_some, p_bc hm, Option.bind_some]
    have pd := pop_dist hw
    simp (disch := omega) only [nI_leI]
    by_cases hd : n ≤ popn (mskn w n) 8
    · have hd2 : dist w n := pd.2.mp (by omega)
      have hd3 : dstb w n = true := (dstb_iff hw).mpr hd2
      rw [if_pos hd]
      have hsc := pow_5 (shc_lt (κ := κ) hw h3 (Or.inr hd3)) h3
      have fin : shw κ n k w = idxo (els κ n k) (shc κ n w) := by
        unfold shw
        rw [if_pos (Or.inr hd3)]
      rw [fin]
      by_cases k1 : κ = 1
      · rw [if_pos k1, p_ord (by omega) h3 (by omega), ord_wc hw hd2, Option.bind_some]
        have es : shc κ n w = wc (rnk w n) n := by unfold shc; rw [if_pos k1]
        rw [← es, p_index f4 e1 e2 e4 hsc hF, Option.bind_some]
      · rw [if_neg k1]
        unfold f_X2_shownBy_118
        by_cases k3 : κ = 3
        · rw [if_pos k3, p_asc hm (by omega) (by omega), Option.bind_some]
          have es : shc κ n w = ascn (mskn w n) 8 := by unfold shc; rw [if_neg k1, if_pos k3]
          rw [← es, p_index f4 e1 e2 e4 hsc hF, Option.bind_some]
        · have es : shc κ n w = wc w n := by unfold shc; rw [if_neg k1, if_neg k3]
          rw [if_neg k3, ← es, p_index f4 e1 e2 e4 hsc hF, Option.bind_some]
    · rw [if_neg hd]
      have hd3 : ¬ (κ = 0 ∨ dstb w n = true) := by
        rintro (q | q)
        · exact h0 q
        · have := pd.2.mpr ((dstb_iff hw).mp q)
          omega
      unfold shw
      rw [if_neg hd3]
      rfl
theorem p_shown_l {F a1 κ n k l p : Nat} {s : Nat → Nat} {M : sm_M} (ho : okF κ n k = true) (hf : famp M κ n k) (hr : rowp M a1 l s) (h0 : 0 < l) (hl : l ≤ 240) (hs : ∀ i, i < l → s i < 8) (hp : p < 1000) (hF : 200 < F) : ∀ (m i : Nat), n < m + i → i ≤ n → f_X2_shownBy_5 F a1 m (nI p) (nI (wc (fun i => s ((p + i) % l)) i)) (nI i) M = some (oI (shw κ n k (fun i => s ((p + i) % l)))) := by
  obtain ⟨-, -, h3, -⟩ := okF_of ho
  have hw : ∀ i, s ((p + i) % l) < 8 := fun i => hs _ (Nat.mod_lt _ h0)
  intro m
  induction m with
  | zero => intro i h1 h2; omega
  | succ m ih =>
    intro i h1 h2
    show f_X2_shownBy_5b F a1 (f_X2_shownBy_5 F a1 m) _ _ _ _ = _
    by_cases h : n ≤ i
    · have e : i = n := by omega
      subst e
      exact p_shown_e ho hf (fun i _ => hw i) hF
    · have hwc : wc (fun i => s ((p + i) % l)) i < 32768 := pow_5 (wc_lt (fun i _ => hw i)) (by omega)
      unfold f_X2_shownBy_5b
      rw [hf.2.1, if_neg (nI_ge (by omega) (by omega)), nI_add, p_cyc hr h0 hl (by omega), Option.bind_some, p_withLast (by omega) (hw i), Option.bind_some, nl_1, nI_add]
      exact ih (i + 1) (by omega) (by omega)
/-- the window of the cycle at p -/
def cyw (s : Nat → Nat) (l p i : Nat) : Nat := s ((p + i) % l)
def shp (κ n k : Nat) (s : Nat → Nat) (l p : Nat) : Option Nat := shw κ n k (cyw s l p)
theorem p_shown {F a1 κ n k l p : Nat} {s : Nat → Nat} {M : sm_M} (ho : okF κ n k = true) (hf : famp M κ n k) (hr : rowp M a1 l s) (h0 : 0 < l) (hl : l ≤ 240) (hs : ∀ i, i < l → s i < 8) (hp : p < 1000) (hF : 200 < F) : f_X2_shownBy F a1 (nI p) M = some (oI (shp κ n k s l p)) := p_shown_l ho hf hr h0 hl hs hp hF F 0 (by have := okF_of ho; omega) (by omega)
