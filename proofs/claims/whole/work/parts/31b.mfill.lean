/-! ===== the reference's graph ===== -/
theorem wc_dg : ∀ (m c : Nat), wc (fun a => dg c (m - 1 - a)) m = c % 8 ^ m
  | 0, c => by
    rw [Nat.pow_zero, Nat.mod_one]
    rfl
  | m + 1, c => by
    rw [wc]
    have e1 : wc (fun a => dg c (m + 1 - 1 - a)) m = wc (fun a => dg (c / 8) (m - 1 - a)) m := wc_cong (fun i hi => by
      rw [dg_div]
      congr 1
      omega)
    have e2 : m + 1 - 1 - m = 0 := by omega
    rw [e1, wc_dg m (c / 8), e2, dg_z, Nat.pow_succ, Nat.mul_comm (8 ^ m) 8, Nat.mod_mul]
    omega
theorem p28 (i : Nat) : 2 ^ (3 * i) = 8 ^ i := by rw [Nat.pow_mul]
theorem dg_mod {x m i : Nat} (h : i < m) : dg (x % 8 ^ m) i = dg x i := by
  unfold dg
  rw [p28]
  have e : 8 ^ m = 8 ^ i * 8 ^ (m - i) := by
    rw [← Nat.pow_add]
    congr 1
    omega
  rw [e, Nat.mod_mul_right_div_self]
  have e2 : 8 ∣ 8 ^ (m - i) := by
    have : m - i = (m - i - 1) + 1 := by omega
    rw [this, Nat.pow_succ]
    exact Nat.dvd_mul_left _ _
  rw [Nat.mod_mod_of_dvd _ e2]
def tstG (κ n : Nat) (V : List Nat) (c : Nat) : Bool := (idxo V (vcd κ (n - 1) (c / 8))).isSome && (idxo V (vcd κ (n - 1) (c % 8 ^ (n - 1)))).isSome
theorem fam_g0 : famAll (fun κ n k => Nat.beq κ 3 || (els κ n k).all (tstG κ n (vts κ n k))) = true := by decide +kernel
theorem g_some {κ n k e c : Nat} (ho : okF κ n k = true) (h3 : κ ≠ 3) (he : (els κ n k)[e]? = some c) : idxo (vts κ n k) (vcd κ (n - 1) (c / 8)) = some (at0 (gF κ n k) e) ∧ idxo (vts κ n k) (vcd κ (n - 1) (c % 8 ^ (n - 1))) = some (at0 (gT κ n k) e) := by
  have h := fam_of fam_g0 ho
  have h4 : Nat.beq κ 3 = false := by
    rw [← Bool.not_eq_true]
    intro q
    exact h3 (Nat.eq_of_beq_eq_true q)
  rw [h4, Bool.false_or, List.all_eq_true] at h
  have h5 := h c (List.mem_of_getElem? he)
  unfold tstG at h5
  rw [Bool.and_eq_true] at h5
  have a1 : at0 (gF κ n k) e = (idxo (vts κ n k) (vcd κ (n - 1) (c / 8))).getD 0 := by
    unfold at0 gF
    rw [List.getD_eq_getElem?_getD, List.getElem?_map, he]
    rfl
  have a2 : at0 (gT κ n k) e = (idxo (vts κ n k) (vcd κ (n - 1) (c % 8 ^ (n - 1)))).getD 0 := by
    unfold at0 gT
    rw [List.getD_eq_getElem?_getD, List.getElem?_map, he]
    rfl
  rw [a1, a2]
  constructor
  · cases hi : idxo (vts κ n k) (vcd κ (n - 1) (c / 8)) with
    | none => rw [hi] at h5; exact absurd h5.1 (by decide)
    | some i => rfl
  · cases hi : idxo (vts κ n k) (vcd κ (n - 1) (c % 8 ^ (n - 1))) with
    | none => rw [hi] at h5; exact absurd h5.2 (by decide)
    | some i => rfl
theorem el_at {κ n k e : Nat} (he : e < (els κ n k).length) : ∃ c, (els κ n k)[e]? = some c := ⟨_, List.getElem?_eq_getElem he⟩
theorem g_lt {κ n k e : Nat} (ho : okF κ n k = true) (h3 : κ ≠ 3) (he : e < (els κ n k).length) : at0 (gF κ n k) e < (vts κ n k).length ∧ at0 (gT κ n k) e < (vts κ n k).length := by
  obtain ⟨c, hc⟩ := el_at he
  obtain ⟨h1, h2⟩ := g_some ho h3 hc
  exact ⟨idxo_lt h1, idxo_lt h2⟩
def enc (κ m : Nat) (v : Nat → Nat) : Nat := wc (if κ = 1 then rnk v m else v) m
theorem enc_cong {κ m : Nat} {v v' : Nat → Nat} (h : ∀ i, i < m → v i = v' i) : enc κ m v = enc κ m v' := by
  unfold enc
  by_cases c : κ = 1
  · rw [if_pos c, if_pos c]
    exact wc_cong (fun i hi => by
      unfold rnk
      apply fb_ct_cong
      intro j hj
      rw [h i hi, h j hj])
  · rw [if_neg c, if_neg c]
    exact wc_cong h
theorem enc_0 {κ n c : Nat} (hn : 1 ≤ n) (hc : c < 8 ^ n) : enc κ (n - 1) (fun i => dg c (n - 1 - (0 + i))) = vcd κ (n - 1) (c / 8) := by
  have e : enc κ (n - 1) (fun i => dg c (n - 1 - (0 + i))) = enc κ (n - 1) (fun i => dg (c / 8) (n - 1 - 1 - i)) := enc_cong (fun i hi => by
    rw [dg_div]
    congr 1
    omega)
  rw [e]
  unfold enc vcd
  by_cases k1 : κ = 1
  · rw [if_pos k1, if_pos k1]
  · rw [if_neg k1, if_neg k1, wc_dg]
    apply Nat.mod_eq_of_lt
    have : 8 ^ n = 8 ^ (n - 1) * 8 := by
      rw [← Nat.pow_succ]
      congr 1
      omega
    omega
theorem enc_1 {κ n c : Nat} : enc κ (n - 1) (fun i => dg c (n - 1 - (1 + i))) = vcd κ (n - 1) (c % 8 ^ (n - 1)) := by
  have e : enc κ (n - 1) (fun i => dg c (n - 1 - (1 + i))) = enc κ (n - 1) (fun i => dg (c % 8 ^ (n - 1)) (n - 1 - 1 - i)) := enc_cong (fun i hi => by
    rw [dg_mod (by omega)]
    congr 1
    omega)
  rw [e]
  unfold enc vcd
  by_cases k1 : κ = 1
  · rw [if_pos k1, if_pos k1]
  · rw [if_neg k1, if_neg k1, wc_dg, Nat.mod_mod]
theorem enc_lt {κ m : Nat} {v : Nat → Nat} (hv : ∀ i, i < m → v i < 8) (hm : m ≤ 5) : enc κ m v < 8 ^ m := by
  unfold enc
  apply wc_lt
  intro i hi
  by_cases k1 : κ = 1
  · rw [if_pos k1]
    exact rnk_lt hi hm
  · rw [if_neg k1]
    exact hv i hi
theorem p_end {F κ n e st c : Nat} {M : sm_M} (h1 : M.1 80 1 = nI κ) (h2 : M.1 80 2 = nI n) (hκ : κ < 4) (hn1 : 1 ≤ n) (hn : n ≤ 5) (he : e < 200) (hst : st ≤ 1) (hel : ∀ i, i < n → M.1 81 (5 * e + i) = nI (dg c (n - 1 - i))) (hF : 6 < F) : f_X12_endOf F (nI e) (nI st) M = some (nI (enc κ (n - 1) (fun i => dg c (n - 1 - (st + i))))) := by
  have hx : ∀ y : Nat, (nI st + nI n) - nI 1 = nI (st + (n - 1)) := fun _ => by
    rw [nI_add, pk_sub (by omega)]
    congr 1
    omega
  have inn : ∀ (kb : Int32 → Int32 → Int32 → Int32 → sm_M → Option Int32) (a x : Nat), a < n - 1 → ∀ (m j : Nat), n - 1 < m + j → j ≤ n - 1 → f_X12_endOf_37 F kb m (nI e) (nI st) (nI x) (nI (st + a)) (nI (dg c (n - 1 - (st + a)))) (nI (fb_ct (fun q => decide (dg c (n - 1 - (st + q)) < dg c (n - 1 - (st + a)))) j)) (nI (st + j)) M = kb (nI e) (nI st) (nI (8 * x + (if κ = 1 then rnk (fun i => dg c (n - 1 - (st + i))) (n - 1) else fun i => dg c (n - 1 - (st + i))) a)) (nI (st + a + 1)) M := by
    intro kb a x ha m
    induction m with
    | zero => intro j a b; omega
    | succ m ih =>
      intro j a1 a2
      show f_X12_endOf_37b F kb (f_X12_endOf_37 F kb m) _ _ _ _ _ _ _ _ = _
      unfold f_X12_endOf_37b f_X12_endOf_73 f_X12_endOf_101
      rw [h1, h2, nl_0, nl_1, nl_5, nl_8, hx 0]
      by_cases h : n - 1 ≤ j
      · have e9 : j = n - 1 := by omega
        subst e9
        rw [if_pos (nI_le (Nat.le_refl _) (by omega)), pk_mul, nI_add, nI_add, nI_add]
        simp (disch := omega) only [nI_eq]
        by_cases k1 : κ = 1
        · simp only [if_pos k1]
          rfl
        · simp only [if_neg k1]
      · have d1 := dg_lt c (n - 1 - (st + j))
        have d2 := dg_lt c (n - 1 - (st + a))
        have ih1 := ih (j + 1) (by omega) (by omega)
        rw [fb_ct_succ] at ih1
        rw [if_neg (nI_ge (by omega) (by omega)), pk_mul, nI_add, g_ib (by omega) (by omega), nI_clamp (by omega), hel (st + j) (by omega), nI_add, nI_add, nI_add]
        simp (disch := omega) only [nI_leI]
        by_cases q : dg c (n - 1 - (st + a)) ≤ dg c (n - 1 - (st + j))
        · rw [if_pos q]
          rw [if_neg (by simp only [decide_eq_true_eq]; omega)] at ih1
          exact ih1
        · rw [if_neg q]
          rw [if_pos (by simp only [decide_eq_true_eq]; omega)] at ih1
          exact ih1
  have key : ∀ (m a : Nat), n - 1 < m + a → a ≤ n - 1 → f_X12_endOf_5 F m (nI e) (nI st) (nI (wc (if κ = 1 then rnk (fun i => dg c (n - 1 - (st + i))) (n - 1) else fun i => dg c (n - 1 - (st + i))) a)) (nI (st + a)) M = some (nI (enc κ (n - 1) (fun i => dg c (n - 1 - (st + i))))) := by
    intro m
    induction m with
    | zero => intro j a b; omega
    | succ m ih =>
      intro a a1 a2
      show f_X12_endOf_5b F (f_X12_endOf_5 F m) _ _ _ _ _ = _
      unfold f_X12_endOf_5b
      rw [h2, nl_1, nl_5, hx 0]
      by_cases h : n - 1 ≤ a
      · have e9 : a = n - 1 := by omega
        subst e9
        rw [if_pos (nI_le (Nat.le_refl _) (by omega))]
        rfl
      · rw [if_neg (nI_ge (by omega) (by omega)), pk_mul, nI_add, g_ib (by omega) (by omega), nI_clamp (by omega), hel (st + a) (by omega)]
        have e1 := inn (f_X12_endOf_5 F m) a (wc (if κ = 1 then rnk (fun i => dg c (n - 1 - (st + i))) (n - 1) else fun i => dg c (n - 1 - (st + i))) a) (by omega) F 0 (by omega) (by omega)
        rw [nl_0]
        have e2 : fb_ct (fun q => decide (dg c (n - 1 - (st + q)) < dg c (n - 1 - (st + a)))) 0 = 0 := rfl
        rw [e2] at e1
        rw [show nI st = nI (st + 0) from rfl] at e1
        refine e1.trans ?_
        exact ih (a + 1) (by omega) (by omega)
  exact key F 0 (by omega) (by omega)
def PF (a j : Nat) : Prop := (a = 80 ∧ (j = 5 ∨ j = 7)) ∨ (81 ≤ a ∧ a ≤ 85)
theorem p_f179 {F κ n k : Nat} {M0 : sm_M} (ho : okF κ n k = true) (h3 : κ ≠ 3) (hF : 300 < F) (h1 : M0.1 80 1 = nI κ) (h2 : M0.1 80 2 = nI n) (h5 : M0.1 80 5 = nI (els κ n k).length) (hel : ∀ e c, (els κ n k)[e]? = some c → ∀ i, i < n → M0.1 81 (5 * e + i) = nI (dg c (n - 1 - i))) (hv : ∀ c, c < 8 ^ (n - 1) → M0.1 83 c = oI (idxo (vts κ n k) c)) : ∀ (m e : Nat) (M : sm_M), (els κ n k).length < m + e → e ≤ (els κ n k).length → fz 84 86 M0 M → (∀ x, x < e → M.1 84 x = nI (at0 (gF κ n k) x) ∧ M.1 85 x = nI (at0 (gT κ n k) x)) → okp (f_X12_fill_179 F m (nI e) M) (fun M' => (∀ x, x < (els κ n k).length → M'.1 84 x = nI (at0 (gF κ n k) x) ∧ M'.1 85 x = nI (at0 (gT κ n k) x)) ∧ fz 84 86 M0 M') := by
  obtain ⟨o1, o2, o3, o4, o5, -, -⟩ := okF_of ho
  have h200 := (els_ok ho).2.1
  have h84 : 8 ^ (n - 1) ≤ 4096 := Nat.le_trans (Nat.pow_le_pow_right (by decide) (show n - 1 ≤ 4 by omega)) (by decide)
  intro m
  induction m with
  | zero => intro e M a b; omega
  | succ m ih =>
    intro e M a1 a2 g b1
    show okp (f_X12_fill_179b F (f_X12_fill_179 F m) _ _) _
    unfold f_X12_fill_179b
    rw [fz_1 g (a := 80) (by omega), h5]
    by_cases c : (els κ n k).length ≤ e
    · rw [if_pos (nI_le c (by omega))]
      exact okp_some ⟨fun x hx => b1 x (by omega), g⟩
    · obtain ⟨cc, hcc⟩ := el_at (κ := κ) (n := n) (k := k) (e := e) (by omega)
      have hc8 := (els_ok ho).2.2 cc (List.mem_of_getElem? hcc)
      obtain ⟨s1, s2⟩ := g_some ho h3 hcc
      have l0 : enc κ (n - 1) (fun i => dg cc (n - 1 - (0 + i))) < 8 ^ (n - 1) := enc_lt (fun i _ => dg_lt _ _) (by omega)
      have l1 : enc κ (n - 1) (fun i => dg cc (n - 1 - (1 + i))) < 8 ^ (n - 1) := enc_lt (fun i _ => dg_lt _ _) (by omega)
      have hel' : ∀ i, i < n → M.1 81 (5 * e + i) = nI (dg cc (n - 1 - i)) := fun i hi => by rw [fz_1 g (by omega)]; exact hel e cc hcc i hi
      rw [if_neg (nI_ge (by omega) (by omega)), nl_0, p_end (st := 0) (by rw [fz_1 g (by omega)]; exact h1) (by rw [fz_1 g (by omega)]; exact h2) o1 o2 o3 (by omega) (by omega) hel' (by omega), Option.bind_some, g_ib (by omega) (by omega), g_ib (by omega) (by omega), nI_clamp (by omega), nI_clamp (by omega), fz_1 g (a := 83) (by omega), hv _ l0, enc_0 o2 hc8, s1, nl_1]
      have hel2 : ∀ i, i < n → (sm_mi M 84 e (oI (some (at0 (gF κ n k) e)))).1 81 (5 * e + i) = nI (dg cc (n - 1 - i)) := fun i hi => by rw [mi_na (by omega)]; exact hel' i hi
      rw [p_end (st := 1) (by rw [mi_na (by omega), fz_1 g (by omega)]; exact h1) (by rw [mi_na (by omega), fz_1 g (by omega)]; exact h2) o1 o2 o3 (by omega) (by omega) hel2 (by omega), Option.bind_some, g_ib (by omega) (by omega), g_ib (by omega) (by omega), nI_clamp (by omega), mi_na (by omega), fz_1 g (a := 83) (by omega), hv _ l1, enc_1, s2]
      show okp (f_X12_fill_179 F m (nI e + 1) (sm_mi (sm_mi M 84 e (nI (at0 (gF κ n k) e))) 85 e (nI (at0 (gT κ n k) e)))) _
      rw [i1]
      refine ih (e + 1) _ (by omega) (by omega) (fz_then (fz_then g (by omega) (by omega)) (by omega) (by omega)) (fun x hx => ?_)
      by_cases q : x = e
      · subst q
        exact ⟨by rw [mi_na (by omega), mi_eq], by rw [mi_eq]⟩
      · refine ⟨?_, ?_⟩
        · rw [mi_na (by omega), mi_ni q]
          exact (b1 x (by omega)).1
        · rw [mi_ni q, mi_na (by omega)]
          exact (b1 x (by omega)).2
def P117 (a j : Nat) : Prop := (a = 80 ∧ j = 7) ∨ a = 83
theorem p_f117 {F κ n k : Nat} {Q : sm_M → Prop} {M0 : sm_M} (ho : okF κ n k = true) (h3 : κ ≠ 3) (hF : 6 < F) (h1 : M0.1 80 1 = nI κ) (h2 : M0.1 80 2 = nI n) (hk3 : M0.1 80 3 = nI k)
    (hQ : ∀ M', M'.1 80 7 = nI (vts κ n k).length → (∀ c, c < 8 ^ (n - 1) → M'.1 83 c = oI (idxo (vts κ n k) c)) → mfr P117 M0 M' → okp (f_X12_fill_179 F F (0 : Int32) M') Q) :
    ∀ (m c : Nat) (M : sm_M), 8 ^ (n - 1) < m + c → c ≤ 8 ^ (n - 1) → mfr P117 M0 M → M.1 80 7 = nI ((List.range c).filter (isK κ (kk κ (n - 1) k) (n - 1))).length → (∀ q, q < c → M.1 83 q = byc (isK κ (kk κ (n - 1) k) (n - 1)) q) → okp (f_X12_fill_117 F m (nI c) M) Q := by
  obtain ⟨o1, o2, o3, o4, o5, -, -⟩ := okF_of ho
  have hE : vts κ n k = (List.range (8 ^ (n - 1))).filter (isK κ (kk κ (n - 1) k) (n - 1)) := elsR_eq (kk_le ho).2 (n - 1)
  have h5 : 8 ^ (n - 1) ≤ 4096 := Nat.le_trans (Nat.pow_le_pow_right (by decide) (show n - 1 ≤ 4 by omega)) (by decide)
  have hlen := (vts_ok ho h3).2.1
  intro m
  induction m with
  | zero => intro c M a b; omega
  | succ m ih =>
    intro c M a1 a2 g b1 b3
    have e1 : M.1 80 1 = nI κ := by rw [g.1 80 1 (by unfold P117; omega)]; exact h1
    have e2 : M.1 80 2 = nI n := by rw [g.1 80 2 (by unfold P117; omega)]; exact h2
    have e3 : M.1 80 3 = nI k := by rw [g.1 80 3 (by unfold P117; omega)]; exact hk3
    show okp (f_X12_fill_117b F (f_X12_fill_117 F m) _ _) _
    unfold f_X12_fill_117b f_X12_fill_171
    rw [e2, nl_m1, nl_1, pk_sub o2, p_codes (by omega) hF, Option.bind_some]
    by_cases h : 8 ^ (n - 1) ≤ c
    · have e : c = 8 ^ (n - 1) := by omega
      subst e
      rw [if_pos (nI_le h (by omega))]
      refine hQ M ?_ (fun c hc => ?_) g
      · rw [hE]; exact b1
      · rw [hE, ← byc_idx hc]
        exact b3 c hc
    · have hl1 := fil_len (isK κ (kk κ (n - 1) k) (n - 1)) (show c ≤ 8 ^ (n - 1) by omega)
      rw [← hE] at hl1
      have i1' : (sm_mi M 83 c mN).1 80 1 = nI κ := by rw [mi_na (by omega)]; exact e1
      have i3' : (sm_mi M 83 c mN).1 80 3 = nI k := by rw [mi_na (by omega)]; exact e3
      have i2' : (sm_mi M 83 c mN).1 80 2 = nI n := by rw [mi_na (by omega)]; exact e2
      have i7' : (sm_mi M 83 c mN).1 80 7 = nI ((List.range c).filter (isK κ (kk κ (n - 1) k) (n - 1))).length := by rw [mi_na (by omega)]; exact b1
      rw [if_neg (nI_ge (by omega) (by omega)), g_ib (by omega) (by omega), nI_clamp (by omega), i2', pk_sub o2, p_isK i1' i3' o1 o5 (by omega) (by omega) hF, Option.bind_some, i7']
      have hf := fil_s (isK κ (kk κ (n - 1) k) (n - 1)) c
      by_cases hk : isK κ (kk κ (n - 1) k) (n - 1) c = true
      · rw [if_pos hk, if_neg (by decide), g_ib (by omega) (by omega), mi_na (a := 83) (by omega), i7', nI_add, nI_add]
        refine ih (c + 1) _ (by omega) (by omega) (mfr_mi (mfr_mi (mfr_mi g (by unfold P117; omega)) (by unfold P117; omega)) (by unfold P117; omega)) ?_ (fun q hq => ?_)
        · rw [mi_eq, hf, if_pos hk, List.length_append]
          rfl
        · rw [mi_na (by omega)]
          by_cases e : q = c
          · subst e
            rw [mi_eq]
            unfold byc
            rw [if_pos hk]
          · rw [mi_ni e, mi_ni e]
            exact b3 q (by omega)
      · rw [if_neg hk, if_pos (by decide), nI_add]
        refine ih (c + 1) _ (by omega) (by omega) (mfr_mi g (by unfold P117; omega)) ?_ (fun q hq => ?_)
        · rw [hf, if_neg hk, List.append_nil, mi_na (by omega)]
          exact b1
        · by_cases e : q = c
          · subst e
            rw [mi_eq]
            unfold byc
            rw [if_neg hk]
          · rw [mi_ni e]
            exact b3 q (by omega)
theorem p_mfill {F κ n k : Nat} {M : sm_M} (ho : okF κ n k = true) (hF : 40000 ≤ F) (h1 : M.1 80 1 = nI κ) (h2 : M.1 80 2 = nI n) (h3 : M.1 80 3 = nI k) : okp (f_X12_fill F M) (fun M' => MF M' κ n k ∧ mfr PF M M') := by
  obtain ⟨o1, o2, o3, o4, o5, -, -⟩ := okF_of ho
  have h200 := (els_ok ho).2.1
  have h58 : 8 ^ n ≤ 32768 := Nat.le_trans (Nat.pow_le_pow_right (by decide) o3) (by decide)
  have h48 : 8 ^ (n - 1) ≤ 4096 := Nat.le_trans (Nat.pow_le_pow_right (by decide) (show n - 1 ≤ 4 by omega)) (by decide)
  unfold f_X12_fill
  have g0 : mfr PF M (sm_mi (sm_mi M 80 5 0) 80 7 0) := mfr_mi (mfr_mi mfr_refl (by unfold PF; omega)) (by unfold PF; omega)
  have w12 : ∀ {M1 M2 : sm_M}, mfr P12 M1 M2 → mfr PF M1 M2 := fun g => mfr_w g (fun a j q => by unfold P12 at q; unfold PF; omega)
  have w117 : ∀ {M1 M2 : sm_M}, mfr P117 M1 M2 → mfr PF M1 M2 := fun g => mfr_w g (fun a j q => by unfold P117 at q; unfold PF; omega)
  refine p_f12 (M0 := sm_mi (sm_mi M 80 5 0) 80 7 0) ho (by omega) (by rw [mi_ni (by omega), mi_ni (by omega)]; exact h1) (by rw [mi_ni (by omega), mi_ni (by omega)]; exact h2) (by rw [mi_ni (by omega), mi_ni (by omega)]; exact h3) ?_ F 0 _ (by omega) (Nat.zero_le _) mfr_refl (by rw [mi_ni (by omega), mi_eq]; rfl) (fun e x hx => by simp at hx) (fun q hq => by omega)
  intro M1 b1 b2 b3 g1
  have gA := mfr_tr g0 (w12 g1)
  have e1 : M1.1 80 1 = nI κ := by rw [gA.1 80 1 (by unfold PF; omega)]; exact h1
  have e2 : M1.1 80 2 = nI n := by rw [gA.1 80 2 (by unfold PF; omega)]; exact h2
  have e3 : M1.1 80 3 = nI k := by rw [gA.1 80 3 (by unfold PF; omega)]; exact h3
  have e7 : M1.1 80 7 = nI 0 := by rw [g1.1 80 7 (by unfold P12; omega), mi_eq]; rfl
  by_cases k3 : κ = 3
  · rw [if_pos (by rw [k3]; rfl)]
    exact okp_some ⟨⟨e1, e2, e3, b1, b2, b3, fun h => absurd k3 h⟩, gA⟩
  · rw [if_neg (show ¬ nI κ = (3 : Int32) from fun q => k3 ((nI_eq (b := 3) (by omega) (by omega)).mp q))]
    refine p_f117 (M0 := M1) ho k3 (by omega) e1 e2 e3 ?_ F 0 M1 (by omega) (Nat.zero_le _) mfr_refl (by rw [e7]; rfl) (fun q hq => by omega)
    intro M2 d1 d2 g2
    have gB := mfr_tr gA (w117 g2)
    have b5 : M2.1 80 5 = nI (els κ n k).length := by rw [g2.1 80 5 (by unfold P117; omega)]; exact b1
    have bel : ∀ e c, (els κ n k)[e]? = some c → ∀ i, i < n → M2.1 81 (5 * e + i) = nI (dg c (n - 1 - i)) := fun e c hc i hi => by rw [g2.1 81 _ (by unfold P117; omega)]; exact b2 e c hc i hi
    have f1 : M2.1 80 1 = nI κ := by rw [g2.1 80 1 (by unfold P117; omega)]; exact e1
    have f2 : M2.1 80 2 = nI n := by rw [g2.1 80 2 (by unfold P117; omega)]; exact e2
    refine okp_mono (p_f179 (M0 := M2) ho k3 (by omega) f1 f2 b5 bel d2 F 0 M2 (by omega) (by omega) fz_refl (fun x hx => by omega)) ?_
    rintro M3 ⟨r1, r2⟩
    refine ⟨⟨by rw [fz_1 r2 (by omega)]; exact f1, by rw [fz_1 r2 (by omega)]; exact f2, by rw [fz_1 r2 (by omega), g2.1 80 3 (by unfold P117; omega)]; exact e3, by rw [fz_1 r2 (by omega)]; exact b5, fun e c hc i hi => by rw [fz_1 r2 (by omega)]; exact bel e c hc i hi, fun c hc => by rw [fz_1 r2 (by omega), g2.1 82 c (by unfold P117; omega)]; exact b3 c hc, fun _ => ⟨by rw [fz_1 r2 (by omega)]; exact d1, r1⟩⟩, mfr_fz gB r2 (fun a j _ _ => by unfold PF; omega) (by omega)⟩
