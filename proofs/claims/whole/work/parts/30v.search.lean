/-! ===== search ===== -/
def bdw (κ n k E : Nat) (w : Nat → Nat) (p : Nat) : Bool := match shp κ n k w E p with
  | none => true
  | some e => (List.range p).any (fun q => decide (shp κ n k w E q = some e))
def mkc (κ n k E : Nat) (w : Nat → Nat) (c e : Nat) : Bool := (List.range c).any (fun q => decide (shp κ n k w E q = some e))
def cdn (n pos : Nat) : Nat := pos + 1 - n
def cup (n E pos : Nat) : Nat := if pos = E - 1 then E else pos + 2 - n
def gdb (κ n k E : Nat) (w : Nat → Nat) (pos : Nat) : Bool := (List.range (cup n E pos - cdn n pos)).all (fun i => !bdw κ n k E w (cdn n pos + i))
def bk (k : Nat) (w : Nat → Nat) : Nat → Nat
  | 0 => 0
  | p + 1 => if w p + 1 < k then p + 1 else bk k w p
def sr (κ n k E : Nat) : Nat → Nat → Nat → (Nat → Nat) → Nat × Nat × (Nat → Nat)
  | 0, c, _, w => (1, c, w)
  | r + 1, c, pos, w => if gdb κ n k E w pos = true then (if pos = E - 1 then (0, c + 1, w) else sr κ n k E r (c + 1) (pos + 1) (up1 w (pos + 1) 0)) else match bk k w (pos + 1) with
    | 0 => (2, c, w)
    | p + 1 => sr κ n k E r (c + 1) p (up1 w p (w p + 1))
theorem gdb_iff {κ n k E : Nat} {w : Nat → Nat} {pos : Nat} : gdb κ n k E w pos = true ↔ ∀ p, cdn n pos ≤ p → p < cup n E pos → bdw κ n k E w p = false := by
  unfold gdb
  simp only [List.all_eq_true, List.mem_range, Bool.not_eq_true']
  constructor
  · intro h p h1 h2
    have := h (p - cdn n pos) (by omega)
    rwa [Nat.add_sub_cancel' h1] at this
  · intro h i hi
    exact h _ (by omega) (by omega)
theorem mkc_iff {κ n k E : Nat} {w : Nat → Nat} {c e : Nat} : mkc κ n k E w c e = true ↔ ∃ q, q < c ∧ shp κ n k w E q = some e := by
  unfold mkc
  simp
theorem bdw_f {κ n k E : Nat} {w : Nat → Nat} {p : Nat} (h : bdw κ n k E w p = false) : ∃ e, shp κ n k w E p = some e ∧ mkc κ n k E w p e = false := by
  unfold bdw at h
  cases hs : shp κ n k w E p with
  | none => rw [hs] at h; cases h
  | some e =>
    rw [hs] at h
    exact ⟨e, rfl, h⟩
theorem bdw_dist {κ n k E : Nat} {w : Nat → Nat} {p q e : Nat} (h : bdw κ n k E w p = false) (hp : shp κ n k w E p = some e) (hq : q < p) : shp κ n k w E q ≠ some e := by
  obtain ⟨e', h1, h2⟩ := bdw_f h
  rw [hp] at h1
  cases h1
  intro h3
  have := mkc_iff.mpr ⟨q, hq, h3⟩
  rw [h2] at this
  cases this
theorem shp_up {κ n k E pos t q : Nat} {w : Nat → Nat} (h : q + n ≤ pos) (hE : pos ≤ E) : shp κ n k (up1 w pos t) E q = shp κ n k w E q := by
  unfold shp
  apply shw_cong
  intro i hi
  unfold cyw up1
  have : (q + i) % E = q + i := Nat.mod_eq_of_lt (by omega)
  rw [this, if_neg (by omega)]
theorem mkc_up {κ n k E pos t c e : Nat} {w : Nat → Nat} (h : c ≤ cdn n pos) (hE : pos ≤ E) (hn : 1 ≤ n) : mkc κ n k E (up1 w pos t) c e = mkc κ n k E w c e := by
  unfold cdn at h
  rw [Bool.eq_iff_iff, mkc_iff, mkc_iff]
  constructor
  · rintro ⟨q, h1, h2⟩
    rw [shp_up (by omega) hE] at h2
    exact ⟨q, h1, h2⟩
  · rintro ⟨q, h1, h2⟩
    exact ⟨q, h1, by rw [shp_up (by omega) hE]; exact h2⟩
theorem bdw_up {κ n k E pos t q : Nat} {w : Nat → Nat} (h : q < cdn n pos) (hE : pos ≤ E) (hn : 1 ≤ n) : bdw κ n k E (up1 w pos t) q = bdw κ n k E w q := by
  unfold cdn at h
  unfold bdw
  rw [shp_up (by omega) hE]
  cases shp κ n k w E q with
  | none => rfl
  | some e => exact mkc_up (c := q) (by unfold cdn; omega) hE hn
/-! the class's window, read from given places only -/
theorem p_cycw {F a0 l p x : Nat} {M : sm_M} (h1 : M.1 a0 1 = nI l) (h2 : M.1 (a0 + 1) (p % l) = nI x) (h0 : 0 < l) (hl : l ≤ 240) (hp : p < 100000) : f_X7_cyclicSymbol F a0 (nI p) M = some (nI x) := by
  have hm : p % l < l := Nat.mod_lt _ h0
  unfold f_X7_cyclicSymbol
  rw [if_neg (nI_pos (by omega)), h1, if_pos (by rw [nl_0]; exact nI_lt h0 (by omega))]
  simp (disch := omega) only [nl_0, nl_1, nl_2, nl_3, nl_4, nl_5, nl_7, nl_8, nl_12, nl_48, nl_49, nl_50, nl_200, nl_201, nl_240, nl_30000, nl_m1, nl_m1b, g_ib, g_nz, g_b0, g_b1, vb_0, vb_1, nI_fold, nI_add, pk_mul, nI_leI, nI_ltI, nI_eq, nI_clamp, pk_rem, mN_eq, mN_eq2, mN_self, mN_add]
  rw [h2]
theorem p_shownw {F a1 κ n k l p : Nat} {v : Nat → Nat} {M : sm_M} (ho : okF κ n k = true) (hf : famp M κ n k) (h1 : M.1 a1 1 = nI l) (h2 : ∀ i, i < n → M.1 (a1 + 1) ((p + i) % l) = nI (v i)) (h0 : 0 < l) (hl : l ≤ 240) (hv : ∀ i, i < n → v i < 8) (hp : p < 1000) (hF : 200 < F) : f_X2_shownBy F a1 (nI p) M = some (oI (shw κ n k v)) := by
  obtain ⟨-, -, h3, -⟩ := okF_of ho
  have key : ∀ (m i : Nat), n < m + i → i ≤ n → f_X2_shownBy_5 F a1 m (nI p) (nI (wc v i)) (nI i) M = some (oI (shw κ n k v)) := by
    intro m
    induction m with
    | zero => intro i a b; omega
    | succ m ih =>
      intro i a1' a2'
      show f_X2_shownBy_5b F a1 (f_X2_shownBy_5 F a1 m) _ _ _ _ = _
      by_cases h : n ≤ i
      · have e : i = n := by omega
        subst e
        exact p_shown_e ho hf hv hF
      · have hwc : wc v i < 32768 := pow_5 (wc_lt (fun j hj => hv j (by omega))) (by omega)
        unfold f_X2_shownBy_5b
        rw [hf.2.1, if_neg (nI_ge (by omega) (by omega)), nI_add, p_cycw h1 (h2 i (by omega)) h0 hl (by omega), Option.bind_some, p_withLast (by omega) (hv i (by omega)), Option.bind_some, nl_1, nI_add]
        exact ih (i + 1) (by omega) (by omega)
  exact key F 0 (by omega) (by omega)
/-! the class's search -/
def csr (M : sm_M) (κ n k E pos f : Nat) (w : Nat → Nat) : Prop := M.1 57 3 = nI n ∧ M.1 57 4 = nI (E - 1) ∧ M.1 58 1 = nI E ∧ (∀ i, i ≤ pos → M.1 59 i = nI (w i)) ∧ (∀ i, i ≤ pos → w i < k) ∧ (∀ q, q < 240 → M.1 60 q = if q < f then oI (shp κ n k w E q) else mN) ∧ (∀ e, e < E → M.1 61 e = bI (mkc κ n k E w f e)) ∧ ∀ q, q < f → bdw κ n k E w q = false
theorem hi_eq (pos n : Nat) : (nI pos - nI n) + nI 1 = nI (pos + 1) - nI n := by
  rw [← nI_add, Int32.sub_eq_add_neg, Int32.sub_eq_add_neg, Int32.add_assoc, Int32.add_comm (-(nI n)) (nI 1), ← Int32.add_assoc]
theorem lo_eq {pos n : Nat} (hp : pos < 240) (hn : n ≤ 5) : (if nI (pos + 1) - nI n < 0 then (0 : Int32) else nI (pos + 1) - nI n) = nI (cdn n pos) := by
  unfold cdn
  by_cases h : n ≤ pos + 1
  · rw [pk_sub h, if_neg (nI_pos (by omega))]
  · rw [if_pos (pk_sneg (by omega) (by omega))]
    have : pos + 1 - n = 0 := by omega
    rw [this]
    rfl
theorem p_bounds {F κ n k E pos f : Nat} {w : Nat → Nat} {M : sm_M} (ho : okF κ n k = true) (hE : E = (els κ n k).length) (hE1 : 1 ≤ E) (hp : pos < E) (h : csr M κ n k E pos f w) : (f_X8_lowestDecided F (nI pos) M = some (nI (cdn n pos))) ∧ ((cup n E pos = 0 ∧ ∃ x : Int32, x < 0 ∧ f_X8_highestDecided F (nI pos) M = some x) ∨ (0 < cup n E pos ∧ f_X8_highestDecided F (nI pos) M = some (nI (cup n E pos) - nI 1))) := by
  obtain ⟨o1, o2, o3, o4, o5, -, -⟩ := okF_of ho
  have h200 := (els_ok ho).2.1
  constructor
  · unfold f_X8_lowestDecided
    rw [h.1, nl_1, hi_eq, lo_eq (by omega) o3]
  · unfold f_X8_highestDecided f_X8_highestDecided_23
    rw [h.1, h.2.1, nl_1, hi_eq]
    unfold cup
    by_cases c : pos = E - 1
    · simp only [if_pos c]
      rw [if_pos (show nI pos = nI (E - 1) by rw [c]), pk_sub hE1]
      exact Or.inr ⟨by omega, rfl⟩
    · rw [if_neg (fun q => c ((nI_eq (by omega) (by omega)).mp q)), if_neg c]
      by_cases d : n ≤ pos + 1
      · right
        refine ⟨by omega, ?_⟩
        rw [pk_sub d, pk_sub (by omega)]
        congr 2
        omega
      · left
        exact ⟨by omega, _, pk_sneg (by omega) (by omega), rfl⟩
theorem hi_lt {c f : Nat} (hc : c ≤ 240) (hf : f ≤ 240) : nI c - nI 1 < nI f ↔ c ≤ f := by
  rw [fa_lt, pk_sub_toInt (by omega) (by omega), nI_toInt (by omega)]
  omega
theorem p_clm {F κ n k E pos : Nat} {w : Nat → Nat} {M0 : sm_M} (ho : okF κ n k = true) (hE : E = (els κ n k).length) (hE1 : 1 ≤ E) (hp : pos < E) (hf : famp M0 κ n k) (hF : 300 ≤ F) : ∀ (m f : Nat) (M : sm_M), cup n E pos < m + f → cdn n pos ≤ f → f ≤ cup n E pos → fz 60 62 M0 M → csr M κ n k E pos f w → okp (f_X8_claimWindows_13 F m (nI (cup n E pos) - nI 1) (nI f) M) (fun r => fz 60 62 M0 r.2 ∧ ((r.1 = nI 1 ∧ gdb κ n k E w pos = true ∧ csr r.2 κ n k E pos (cup n E pos) w) ∨ (r.1 = nI 0 ∧ gdb κ n k E w pos = false ∧ ∃ f', cdn n pos ≤ f' ∧ f' ≤ cup n E pos ∧ csr r.2 κ n k E pos f' w))) := by
  obtain ⟨o1, o2, o3, o4, o5, -, -⟩ := okF_of ho
  have h200 := (els_ok ho).2.1
  have hcu : cup n E pos ≤ E ∧ (cup n E pos = E → pos = E - 1 ∨ True) := by
    unfold cup
    split <;> omega
  intro m
  induction m with
  | zero => intro f M a b; omega
  | succ m ih =>
    intro f M a1 a2 a3 g hk
    obtain ⟨k1, k2, k3, k4, k5, k6, k7, k8⟩ := id hk
    show okp (f_X8_claimWindows_13b F (f_X8_claimWindows_13 F m) _ _ _) _
    unfold f_X8_claimWindows_13b f_X8_claimWindows_47
    by_cases c : cup n E pos ≤ f
    · have e : f = cup n E pos := by omega
      rw [if_pos ((hi_lt (by omega) (by omega)).mpr c)]
      refine okp_some ⟨g, Or.inl ⟨rfl, gdb_iff.mpr (fun p _ h2 => k8 p (by omega)), ?_⟩⟩
      rw [← e]
      exact hk
    · rw [if_neg (fun q => c ((hi_lt (by omega) (by omega)).mp q))]
      have hin : ∀ i, i < n → (f + i) % E ≤ pos := fun i hi => by
        have hm : (f + i) % E < E := Nat.mod_lt _ (by omega)
        unfold cup at c
        by_cases d : pos = E - 1
        · omega
        · rw [if_neg d] at c
          have : (f + i) % E = f + i := Nat.mod_eq_of_lt (by omega)
          omega
      rw [p_shownw (v := cyw w E f) ho (famp_f hf g (by omega)) k3 (fun i hi => k4 _ (hin i hi)) (by omega) (by omega) (fun i hi => Nat.lt_of_lt_of_le (k5 _ (hin i hi)) o5) (by omega) (by omega), Option.bind_some, nl_m1, nl_1, vb_1, nl_0]
      have e0 : shw κ n k (cyw w E f) = shp κ n k w E f := rfl
      rw [e0]
      have bad : bdw κ n k E w f = true → gdb κ n k E w pos = false := fun hb => by
        rw [← Bool.not_eq_true, gdb_iff]
        intro q
        rw [q f a2 (by omega)] at hb
        cases hb
      cases hsh : shp κ n k w E f with
      | none =>
        refine okp_t rfl (okp_some ⟨g, Or.inr ⟨rfl, bad (by unfold bdw; rw [hsh]), f, a2, a3, hk⟩⟩)
      | some e =>
        have h2 : e < E := by rw [hE]; exact (shp_lt ho hsh).1
        refine okp_f (fun q => (mN_eq (show e < 2 ^ 31 by omega)).mp q) ?_
        show okp (sm_g (sm_ib (nI e) 200) (if M.1 61 (nI e).toNatClampNeg = nI 0 then sm_g (sm_ib (nI e) 200) (sm_g (sm_ib (nI f) 240) (f_X8_claimWindows_13 F m (nI (cup n E pos) - nI 1) (nI f + nI 1) (sm_mi (sm_mi M 61 (nI e).toNatClampNeg (nI 1)) 60 (nI f).toNatClampNeg (nI e)))) else some (nI 0, M))) _
        rw [g_ib (by omega) (by omega), g_ib (by omega) (by omega), g_ib (by omega) (by omega), nI_clamp (by omega), nI_clamp (by omega), k7 e h2, nI_add]
        by_cases d : mkc κ n k E w f e = false
        · refine okp_t (bI_0.mpr d) ?_
          refine ih (f + 1) _ (by omega) (by omega) (by omega) (fz_then (fz_then g (by omega) (by omega)) (by omega) (by omega)) ⟨?_, ?_, ?_, fun i hi => ?_, k5, fun q hq => ?_, fun x hx => ?_, fun q hq => ?_⟩
          · rw [mi_na (by omega), mi_na (by omega)]; exact k1
          · rw [mi_na (by omega), mi_na (by omega)]; exact k2
          · rw [mi_na (by omega), mi_na (by omega)]; exact k3
          · rw [mi_na (by omega), mi_na (by omega)]; exact k4 i hi
          · by_cases e9 : q = f
            · subst e9
              rw [mi_eq, if_pos (by omega), hsh]
              rfl
            · rw [mi_ni e9, mi_na (by omega), k6 q hq]
              by_cases z : q < f
              · rw [if_pos z, if_pos (by omega)]
              · rw [if_neg z, if_neg (by omega)]
          · rw [mi_na (by omega)]
            have es : mkc κ n k E w (f + 1) x = (mkc κ n k E w f x || decide (shp κ n k w E f = some x)) := by
              unfold mkc
              rw [List.range_succ, List.any_append]
              simp
            rw [es, hsh]
            by_cases q : x = e
            · subst q
              rw [mi_eq]
              simp [bI]
            · rw [mi_ni q, k7 x hx]
              have : ¬ (some e = some x) := fun h => q (by cases h; rfl)
              simp [this]
          · by_cases e9 : q = f
            · subst e9
              unfold bdw
              rw [hsh]
              exact d
            · exact k8 q (by omega)
        · refine okp_f (fun q => d (bI_0.mp q)) (okp_some ⟨g, Or.inr ⟨rfl, bad ?_, f, a2, a3, hk⟩⟩)
          unfold bdw
          rw [hsh]
          show mkc κ n k E w f e = true
          simpa only [Bool.not_eq_false] using d
theorem cc_clm {F κ n k E pos : Nat} {w : Nat → Nat} {M : sm_M} (ho : okF κ n k = true) (hE : E = (els κ n k).length) (hE1 : 1 ≤ E) (hp : pos < E) (hf : famp M κ n k) (hF : 300 ≤ F) (hk : csr M κ n k E pos (cdn n pos) w) : okp (f_X8_claimWindows F (nI pos) M) (fun r => fz 60 62 M r.2 ∧ ((r.1 = nI 1 ∧ gdb κ n k E w pos = true ∧ csr r.2 κ n k E pos (cup n E pos) w) ∨ (r.1 = nI 0 ∧ gdb κ n k E w pos = false ∧ ∃ f', cdn n pos ≤ f' ∧ f' ≤ cup n E pos ∧ csr r.2 κ n k E pos f' w))) := by
  have h200 := (els_ok ho).2.1
  obtain ⟨b1, b2⟩ := p_bounds (F := F) ho hE hE1 hp hk
  have hcu : cup n E pos ≤ E := by
    unfold cup
    have := okF_of ho
    split <;> omega
  have hcd : cdn n pos ≤ cup n E pos := by
    unfold cdn cup
    have := okF_of ho
    split <;> omega
  unfold f_X8_claimWindows
  rcases b2 with ⟨z, x, hx, b2⟩ | ⟨z, b2⟩
  · rw [b2, Option.bind_some, b1, Option.bind_some]
    cases F with
    | zero => omega
    | succ F =>
      have e0 : cdn n pos = 0 := by omega
      show okp (f_X8_claimWindows_13b _ _ _ _ _) _
      unfold f_X8_claimWindows_13b
      rw [e0, if_pos (show x < nI 0 from hx)]
      refine okp_some ⟨fz_refl, Or.inl ⟨rfl, gdb_iff.mpr (fun p h1 h2 => by omega), ?_⟩⟩
      rw [e0] at hk
      rw [z]
      exact hk
  · rw [b2, Option.bind_some, b1, Option.bind_some]
    exact p_clm ho hE hE1 hp hf hF F (cdn n pos) M (by omega) (by omega) hcd fz_refl hk
