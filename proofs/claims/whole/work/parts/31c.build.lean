/-! ===== the class's family and graph: codes, ends, groups ===== -/
theorem cc_codes {F a1 κ L k : Nat} {M : sm_M} (h1 : M.1 1 1 = nI κ) (h3 : M.1 1 3 = nI k) (hκ : κ < 4) (hk : kk κ L k ≤ 8) (hL : L ≤ 5) (hF : 200 < F) (hlen : ∀ f, f ≤ L → (elsR κ (kk κ L k) f).length ≤ 200) : okp (f_X2_fillCodes F a1 (nI L) M) (fun M' => codp M' a1 (elsR κ (kk κ L k) L) ∧ fz a1 (a1 + 3) M M') := by
  unfold f_X2_fillCodes f_X2_fillCodes_22
  rw [h1, h3, nl_1]
  simp (disch := omega) only [nI_eq]
  have e : ∀ S, S = kk κ L k → okp ((f_X1_fill F a1 (nI κ) (nI L) (nI S) M).bind fun q1 => some q1) (fun M' => codp M' a1 (elsR κ (kk κ L k) L) ∧ fz a1 (a1 + 3) M M') := fun S hS => by
    subst hS
    refine okp_bind (p_cfill hκ hk hL hF hlen) ?_
    exact fun r q => okp_some q
  by_cases c : κ = 1
  · rw [if_pos c]
    exact e L (by unfold kk; rw [if_pos c])
  · rw [if_neg c]
    exact e k (by unfold kk; rw [if_neg c])
theorem cc_become {F κ n k : Nat} {M : sm_M} (ho : okF κ n k = true) (hF : 200 < F) : okp (f_X2_become F (nI κ) (nI n) (nI k) M) (fun M' => famp M' κ n k ∧ fz 1 5 M M') := by
  obtain ⟨o1, o2, o3, o4, o5, -, -⟩ := okF_of ho
  unfold f_X2_become
  rw [mi_ni (by omega), mi_eq]
  have g0 : fz 1 2 M (sm_mi (sm_mi (sm_mi M 1 1 (nI κ)) 1 2 (nI n)) 1 3 (nI k)) := fz_then (fz_then (fz_mi (by omega) (by omega)) (by omega) (by omega)) (by omega) (by omega)
  refine okp_bind (cc_codes (a1 := 2) (L := n) (κ := κ) (k := k) (by rw [mi_ni (by omega), mi_ni (by omega), mi_eq]) (by rw [mi_eq]) o1 (kk_le ho).1 o3 hF (fun f hf => fam_len ho hf)) ?_
  rintro M1 ⟨q1, g1⟩
  refine okp_some ⟨⟨?_, ?_, ?_, q1⟩, fz_tr g0 g1 (by omega) (by omega) (by omega) (by omega)⟩
  · rw [fz_1 g1 (by omega), mi_ni (by omega), mi_ni (by omega), mi_eq]
  · rw [fz_1 g1 (by omega), mi_ni (by omega), mi_eq]
  · rw [fz_1 g1 (by omega), mi_eq]
theorem el_dist {n k x i j : Nat} (ho : okF 1 n k = true) (hx : x ∈ els 1 n k) (hi : i < n) (hj : j < n) (hij : i ≠ j) : dg x i ≠ dg x j := by
  have h : isK 1 (kk 1 n k) n x = true := by
    have : els 1 n k = (List.range (8 ^ n)).filter (isK 1 (kk 1 n k) n) := elsR_eq (kk_le ho).1 n
    rw [this] at hx
    exact (List.mem_filter.mp hx).2
  have key : ∀ a b, a < b → b < n → dg x a ≠ dg x b := by
    intro a b hab hb
    have := ((isK_iff.mp h) (n - 1 - a) (by omega)).2 (n - 1 - b) (by omega)
    have e1 : n - 1 - (n - 1 - a) = a := by omega
    have e2 : n - 1 - (n - 1 - b) = b := by omega
    rw [e1, e2] at this
    unfold rlb at this
    simp at this
    exact fun q => this q.symm
  rcases Nat.lt_or_gt_of_ne hij with q | q
  · exact key i j q hj
  · exact fun e => key j i q hi e.symm
theorem p_vof {F κ n k c i : Nat} {M : sm_M} (ho : okF κ n k = true) (h3 : κ ≠ 3) (hf : famp M κ n k) (hv : codp M 6 (vts κ n k)) (hc : c < 8 ^ (n - 1)) (hd : κ = 1 → dist (fun i => dg c (n - 1 - 1 - i)) (n - 1)) (hi : idxo (vts κ n k) (vcd κ (n - 1) c) = some i) (hF : 200 < F) : f_X4_vertexOf F (nI c) M = some (nI i) := by
  obtain ⟨o1, o2, o3, o4, o5, -, -⟩ := okF_of ho
  obtain ⟨v1, v2, v3⟩ := vts_ok ho h3
  have h48 : 8 ^ (n - 1) ≤ 4096 := Nat.le_trans (Nat.pow_le_pow_right (by decide) (show n - 1 ≤ 4 by omega)) (by decide)
  have hvb : ∀ x, x ∈ vts κ n k → x < 32768 := fun x hx => by have := v3 x hx; omega
  have hlt := idxo_lt hi
  have fin : ∀ d, d < 32768 → idxo (vts κ n k) d = some i → f_X4_vertexOf_36 F (nI d) M = some (nI i) := fun d hd hdi => by
    unfold f_X4_vertexOf_36
    rw [p_index hv v1 (by omega) hvb hd hF, Option.bind_some, hdi]
    show some (if nI i < (0 : Int32) then (0 : Int32) else nI i) = _
    rw [if_neg (nI_pos (by omega))]
  unfold f_X4_vertexOf f_X4_vertexOf_13
  rw [hf.1, hf.2.1, nl_1]
  simp (disch := omega) only [nI_eq]
  by_cases k1 : κ = 1
  · rw [if_pos k1, if_neg (by decide), pk_sub o2, p_ord (by omega) (by omega) (by omega), Option.bind_some]
    have e1 : c = wc (fun a => dg c (n - 1 - 1 - a)) (n - 1) := by rw [wc_dg, Nat.mod_eq_of_lt hc]
    have e2 := ord_wc (w := fun a => dg c (n - 1 - 1 - a)) (n := n - 1) (fun j _ => dg_lt _ _) (hd k1)
    rw [← e1] at e2
    rw [e2]
    have e3 : vcd κ (n - 1) c = wc (rnk (fun i => dg c (n - 1 - 1 - i)) (n - 1)) (n - 1) := by unfold vcd; rw [if_pos k1]
    rw [e3] at hi
    have hb : wc (rnk (fun i => dg c (n - 1 - 1 - i)) (n - 1)) (n - 1) < 8 ^ (n - 1) := wc_lt (fun j hj => rnk_lt hj (by omega))
    exact fin _ (by omega) hi
  · rw [if_neg k1, if_pos (by decide)]
    have e3 : vcd κ (n - 1) c = c := by unfold vcd; rw [if_neg k1]
    rw [e3] at hi
    exact fin c (by omega) hi
theorem s_b {x : Nat} (hx : x < 2 ^ 31) : nI x >>> ((3 : Int32) &&& 31) = nI (x / 8) := pk_shrN hx _ 3 (by decide)
theorem s_m : ∀ m, m < 5 → ((nI 1) <<< (nI (3 * m) &&& 31)) - nI 1 = nI (2 ^ (3 * m) - 1) := fun m hm => co_dec (P := fun m => ((nI 1) <<< (nI (3 * m) &&& 31)) - nI 1 = nI (2 ^ (3 * m) - 1)) (N := 5) (by decide +kernel) hm
/-! ends -/
theorem p_ends {F κ n k : Nat} {Q : sm_M → Prop} {M0 : sm_M} (ho : okF κ n k = true) (h3 : κ ≠ 3) (hF : 300 < F) (hf : famp M0 κ n k) (hv : codp M0 6 (vts κ n k)) (h10 : M0.1 5 10 = nI (els κ n k).length)
    (hQ : ∀ M, (∀ a, a ≠ 10 → a ≠ 14 → M.1 a = M0.1 a ∧ M.2 a = M0.2 a) → (∀ e, e < (els κ n k).length → M.1 10 e = nI (at0 (gF κ n k) e) ∧ M.1 14 e = nI (at0 (gT κ n k) e)) → okp ((f_X3_group F 9 (nI (els κ n k).length) (nI (vts κ n k).length) M).bind fun q2 => (f_X3_group F 13 (q2.1 5 10) (q2.1 6 2) q2).bind fun q3 => (f_X4_buildCircuit F q3).bind fun q4 => some q4) Q) :
    ∀ (m e : Nat) (M : sm_M), (els κ n k).length < m + e → e ≤ (els κ n k).length → (∀ a, a ≠ 10 → a ≠ 14 → M.1 a = M0.1 a ∧ M.2 a = M0.2 a) → (∀ x, x < e → M.1 10 x = nI (at0 (gF κ n k) x) ∧ M.1 14 x = nI (at0 (gT κ n k) x)) → okp (f_X4_build_36 F m (nI e) M) Q := by
  obtain ⟨o1, o2, o3, o4, o5, -, -⟩ := okF_of ho
  have h200 := (els_ok ho).2.1
  have h48 : 8 ^ (n - 1) ≤ 4096 := Nat.le_trans (Nat.pow_le_pow_right (by decide) (show n - 1 ≤ 4 by omega)) (by decide)
  intro m
  induction m with
  | zero => intro e M a b; omega
  | succ m ih =>
    intro e M a1 a2 g b1
    show okp (f_X4_build_36b F (f_X4_build_36 F m) _ _) _
    unfold f_X4_build_36b
    rw [(g 5 (by omega) (by omega)).1, h10]
    by_cases c : (els κ n k).length ≤ e
    · rw [if_pos (nI_le c (by omega)), (g 6 (by omega) (by omega)).1, hv.1]
      exact hQ M g (fun x hx => b1 x (by omega))
    · obtain ⟨x, hx⟩ := el_at (κ := κ) (n := n) (k := k) (e := e) (by omega)
      have hmem := List.mem_of_getElem? hx
      have hx8 := (els_ok ho).2.2 x hmem
      have hx32 := pow_5 hx8 o3
      obtain ⟨s1, s2⟩ := g_some ho h3 hx
      have fA : ∀ (M : sm_M), (∀ a, a ≠ 10 → a ≠ 14 → M.1 a = M0.1 a ∧ M.2 a = M0.2 a) → famp M κ n k ∧ codp M 6 (vts κ n k) := fun M g => by
        refine ⟨?_, codp_c hv (by rw [(g 6 (by omega) (by omega)).1]) (g 7 (by omega) (by omega)).1⟩
        unfold famp
        rw [(g 1 (by omega) (by omega)).1]
        exact ⟨hf.1, hf.2.1, hf.2.2.1, codp_c hf.2.2.2 (by rw [(g 2 (by omega) (by omega)).1]) (g 3 (by omega) (by omega)).1⟩
      have e8 : 8 ^ n = 8 ^ (n - 1) * 8 := by
        rw [← Nat.pow_succ]
        congr 1
        omega
      have hd0 : κ = 1 → dist (fun i => dg (x / 8) (n - 1 - 1 - i)) (n - 1) := fun k1 => by
        subst k1
        intro i j hij hj
        show dg (x / 8) (n - 1 - 1 - i) ≠ dg (x / 8) (n - 1 - 1 - j)
        rw [dg_div, dg_div]
        exact el_dist ho hmem (by omega) (by omega) (by omega)
      have hd1 : κ = 1 → dist (fun i => dg (x % 8 ^ (n - 1)) (n - 1 - 1 - i)) (n - 1) := fun k1 => by
        subst k1
        intro i j hij hj
        show dg (x % 8 ^ (n - 1)) (n - 1 - 1 - i) ≠ dg (x % 8 ^ (n - 1)) (n - 1 - 1 - j)
        rw [dg_mod (by omega), dg_mod (by omega)]
        exact el_dist ho hmem (by omega) (by omega) (by omega)
      have m3 : M.1 3 e = nI x := by rw [(g 3 (by omega) (by omega)).1]; exact hf.2.2.2.2 e x hx
      obtain ⟨f1, f2⟩ := fA M g
      unfold f_X1_withoutLast f_X1_withoutFirst
      rw [if_neg (nI_ge (by omega) (by omega)), g_ib (by omega) (by omega), nI_clamp (by omega), m3, s_b (by omega), Option.bind_some, p_vof ho h3 f1 f2 (by omega) hd0 s1 (by omega), Option.bind_some, g_ib (by omega) (by omega), Option.bind_some, mi_na (by omega), f1.2.1, nl_1, nl_3, pk_sub o2, pk_mul, s_m (n - 1) (by omega), fa_mask, p28]
      have g1 : ∀ a, a ≠ 10 → a ≠ 14 → (sm_mi M 10 e (nI (at0 (gF κ n k) e))).1 a = M0.1 a ∧ (sm_mi M 10 e (nI (at0 (gF κ n k) e))).2 a = M0.2 a := fun a x y => ⟨by rw [mi_na x]; exact (g a x y).1, (g a x y).2⟩
      obtain ⟨f3, f4⟩ := fA _ g1
      rw [p_vof ho h3 f3 f4 (Nat.mod_lt _ (Nat.pow_pos (by decide))) hd1 s2 (by omega), Option.bind_some, g_ib (by omega) (by omega), nI_add]
      refine ih (e + 1) _ (by omega) (by omega) (fun a x y => ⟨by rw [mi_na y, mi_na x]; exact (g a x y).1, (g a x y).2⟩) (fun y hy => ?_)
      by_cases q : y = e
      · subst q
        exact ⟨by rw [mi_na (by omega), mi_eq], by rw [mi_eq]⟩
      · refine ⟨?_, ?_⟩
        · rw [mi_na (by omega), mi_ni q]
          exact (b1 y (by omega)).1
        · rw [mi_ni q, mi_na (by omega)]
          exact (b1 y (by omega)).2
/-! groups -/
def ltc (E : Nat → Nat) (m v : Nat) : Nat := fb_ct (fun x => decide (E x < v)) m
def eqc (E : Nat → Nat) (v i : Nat) : Nat := fb_ct (fun x => decide (E x = v)) i
theorem ltc_s {E : Nat → Nat} {m v : Nat} : ltc E m (v + 1) = ltc E m v + eqc E v m := by
  unfold ltc eqc
  rw [← fb_ct_or (fun k _ => by simp only [decide_eq_true_eq]; omega)]
  apply fb_ct_cong
  intro k _
  rw [Bool.eq_iff_iff]
  simp only [Bool.or_eq_true, decide_eq_true_eq]
  omega
theorem ltc_0 {E : Nat → Nat} {m : Nat} : ltc E m 0 = 0 := by
  unfold ltc
  rw [fb_ct_zero]
  intro k _
  simp
theorem ltc_le {E : Nat → Nat} {m v : Nat} : ltc E m v ≤ m := fb_ct_le _ _
theorem ltc_mono {E : Nat → Nat} {m v v' : Nat} (h : v ≤ v') : ltc E m v ≤ ltc E m v' := fb_ct_sub (fun k _ hk => by simp only [decide_eq_true_eq] at *; omega)
theorem eqc_s {E : Nat → Nat} {v i : Nat} : eqc E v (i + 1) = eqc E v i + (if E i = v then 1 else 0) := by
  unfold eqc
  rw [fb_ct_succ]
  simp
theorem eqc_mono {E : Nat → Nat} {v i j : Nat} (h : i ≤ j) : eqc E v i ≤ eqc E v j := fb_ct_mono _ h
theorem fpos_eq {E : Nat → Nat} {m e : Nat} : fpos E m e = ltc E m (E e) + eqc E (E e) e := rfl
theorem fpos_lt {E : Nat → Nat} {m e : Nat} (he : e < m) : fpos E m e < ltc E m (E e + 1) := by
  rw [fpos_eq, ltc_s]
  have h1 := eqc_s (E := E) (v := E e) (i := e)
  rw [if_pos rfl] at h1
  have h2 := eqc_mono (E := E) (v := E e) (show e + 1 ≤ m by omega)
  omega
theorem fpos_inj {E : Nat → Nat} {m e e' : Nat} (he : e < m) (he' : e' < m) (h : fpos E m e = fpos E m e') : e = e' := by
  have key : ∀ a b, a < m → b < m → E a < E b → fpos E m a < fpos E m b := fun a b ha hb hab => by
    have h1 := fpos_lt (E := E) ha
    have h2 := ltc_mono (E := E) (m := m) (show E a + 1 ≤ E b by omega)
    rw [fpos_eq (e := b)]
    omega
  have key2 : ∀ a b, a < b → b < m → E a = E b → fpos E m a < fpos E m b := fun a b hab hb heq => by
    rw [fpos_eq, fpos_eq, heq]
    have h1 := eqc_s (E := E) (v := E b) (i := a)
    rw [if_pos heq] at h1
    have h2 := eqc_mono (E := E) (v := E b) (show a + 1 ≤ b by omega)
    omega
  rcases Nat.lt_trichotomy (E e) (E e') with q | q | q
  · have := key e e' he he' q; omega
  · rcases Nat.lt_trichotomy e e' with r | r | r
    · have := key2 e e' r he' q; omega
    · exact r
    · have := key2 e' e r he q.symm; omega
  · have := key e' e he' he q; omega
theorem p_g70 {F a m V : Nat} {E : Nat → Nat} {M0 : sm_M} (hm : m ≤ 200) (hV : V ≤ 200) (hE : ∀ e, e < m → E e < V) (h1 : ∀ e, e < m → M0.1 (a + 1) e = nI (E e)) : ∀ (z i : Nat) (M : sm_M), i < z → i ≤ m → fz (a + 2) (a + 4) M0 M → (∀ v, v ≤ V → M.1 (a + 3) v = nI (ltc E m v + eqc E v i)) → (∀ e, i ≤ e → e < m → M.1 (a + 2) (fpos E m e) = nI e) → okp (f_X3_group_70 F a z (nI i - nI 1) M) (fun M' => fanp M' a E m V ∧ fz (a + 2) (a + 4) M0 M') := by
  intro z
  induction z with
  | zero => intro i M a; omega
  | succ z ih =>
    intro i M a1 a2 g b1 b2
    show okp (f_X3_group_70b F a (f_X3_group_70 F a z) _ _) _
    unfold f_X3_group_70b
    cases i with
    | zero =>
      rw [if_pos (pk_sneg (by omega) (by omega))]
      refine okp_some ⟨⟨fun e he => by rw [fz_1 g (by omega)]; exact h1 e he, fun v hv => ?_, fun e he => b2 e (by omega) he⟩, g⟩
      rw [b1 v hv]
      rfl
    | succ i =>
      have hEi := hE i (by omega)
      have e1 : nI (i + 1) - nI 1 = nI i := nI_pred i
      have e2 : nI i + (-1) = nI i - nI 1 := by
        rw [Int32.sub_eq_add_neg]
        rfl
      have es := eqc_s (E := E) (v := E i) (i := i)
      rw [if_pos rfl] at es
      have hfl := fpos_lt (E := E) (show i < m by omega)
      have hle := ltc_le (E := E) (m := m) (v := E i + 1)
      have m3 : M.1 (a + 3) (E i) = nI (fpos E m i + 1) := by
        rw [b1 _ (by omega), es, fpos_eq]
        rfl
      rw [e1, if_neg (nI_pos (by omega)), e2]
      simp only [g_ib (show i < 200 by omega) (show 200 < 2 ^ 31 by omega), nI_clamp (show i < 2 ^ 31 by omega), fz_1 g (a := a + 1) (Or.inl (by omega)), h1 i (by omega), g_ib (show E i < 201 by omega) (show 201 < 2 ^ 31 by omega), nI_clamp (show E i < 2 ^ 31 by omega), m3, mi_eq, show nI (fpos E m i + 1) - 1 = nI (fpos E m i) from nI_pred _, g_ib (show fpos E m i < 200 by omega) (show 200 < 2 ^ 31 by omega), nI_clamp (show fpos E m i < 2 ^ 31 by omega)]
      refine ih i _ (by omega) (by omega) (fz_then (fz_then g (by omega) (by omega)) (by omega) (by omega)) (fun v hv => ?_) (fun e h4 h5 => ?_)
      · rw [mi_na (by omega)]
        by_cases q : v = E i
        · subst q
          rw [mi_eq, fpos_eq]
        · rw [mi_ni q, b1 v hv, eqc_s, if_neg (fun h => q h.symm), Nat.add_zero]
      · by_cases q : e = i
        · subst q
          rw [mi_eq]
        · rw [mi_ni (fun h => q (fpos_inj (by omega) (by omega) h)), mi_na (by omega)]
          exact b2 e (by omega) h5
theorem p_g38 {F a m V : Nat} {E : Nat → Nat} {M0 : sm_M} (hm : m ≤ 200) (hV : V ≤ 200) (hE : ∀ e, e < m → E e < V) (h1 : ∀ e, e < m → M0.1 (a + 1) e = nI (E e)) (hF : 300 < F) : ∀ (z v : Nat) (M : sm_M), V + 1 < z + v → 1 ≤ v → v ≤ V + 1 → fz (a + 2) (a + 4) M0 M → (∀ u, u < v → M.1 (a + 3) u = nI (ltc E m (u + 1))) → (∀ u, v ≤ u → u ≤ V → M.1 (a + 3) u = nI (eqc E u m)) → okp (f_X3_group_38 F a z (nI m) (nI V) (nI v) M) (fun M' => fanp M' a E m V ∧ fz (a + 2) (a + 4) M0 M') := by
  intro z
  induction z with
  | zero => intro v M a; omega
  | succ z ih =>
    intro v M a1 a2 a3 g b1 b2
    show okp (f_X3_group_38b F a (f_X3_group_38 F a z) _ _ _ _) _
    unfold f_X3_group_38b
    by_cases c : V < v
    · rw [if_pos (nI_lt c (by omega))]
      exact p_g70 hm hV hE h1 F m M (by omega) (by omega) g (fun u hu => by rw [b1 u (by omega), ltc_s]) (fun e h4 h5 => by omega)
    · have e1 : v - 1 + 1 = v := by omega
      rw [if_neg (nI_nlt (by omega) (by omega)), g_ib (by omega) (by omega), nl_1, pk_sub a2, g_ib (by omega) (by omega), g_ib (by omega) (by omega), nI_clamp (by omega), nI_clamp (by omega), b1 (v - 1) (by omega), b2 v (by omega) (by omega), nI_add, nI_add, e1]
      refine ih (v + 1) _ (by omega) (by omega) (by omega) (fz_then g (by omega) (by omega)) (fun u hu => ?_) (fun u h4 h5 => ?_)
      · by_cases q : u = v
        · subst q
          rw [mi_eq, ltc_s, Nat.add_comm]
        · rw [mi_ni q]
          exact b1 u (by omega)
      · rw [mi_ni (by omega)]
        exact b2 u (by omega) h5
theorem cc_group {F a m V : Nat} {E : Nat → Nat} {M : sm_M} (hm : m ≤ 200) (hV : V ≤ 200) (hE : ∀ e, e < m → E e < V) (h1 : ∀ e, e < m → M.1 (a + 1) e = nI (E e)) (hF : 300 < F) : okp (f_X3_group F a (nI m) (nI V) M) (fun M' => fanp M' a E m V ∧ fz (a + 2) (a + 4) M M') := by
  unfold f_X3_group
  refine okp_bind (p_fill (by omega) (by omega)) ?_
  rintro M1 ⟨q1, g1⟩
  have g1' : fz (a + 2) (a + 4) M M1 := fz_w g1 (by omega) (by omega)
  have key : ∀ (z i : Nat) (M2 : sm_M), m < z + i → i ≤ m → fz (a + 2) (a + 4) M M2 → (∀ v, v ≤ V → M2.1 (a + 3) v = nI (eqc E v i)) → okp (f_X3_group_10 F a z (nI m) (nI V) (nI i) M2) (fun M' => fanp M' a E m V ∧ fz (a + 2) (a + 4) M M') := by
    intro z
    induction z with
    | zero => intro i M a b; omega
    | succ z ih =>
      intro i M2 a1 a2 g b1
      show okp (f_X3_group_10b F a (f_X3_group_10 F a z) _ _ _ _) _
      unfold f_X3_group_10b
      by_cases c : m ≤ i
      · have e : i = m := by omega
        subst e
        rw [if_pos (nI_le c (by omega)), nl_1]
        refine p_g38 hm hV hE h1 hF F 1 M2 (by omega) (by omega) (by omega) g (fun u hu => ?_) (fun u _ h5 => b1 u h5)
        have : u = 0 := by omega
        subst this
        rw [b1 0 (by omega), ltc_s, ltc_0, Nat.zero_add]
      · have hEi := hE i (by omega)
        rw [if_neg (nI_ge (by omega) (by omega)), g_ib (by omega) (by omega), nI_clamp (by omega), fz_1 g (a := a + 1) (by omega), h1 i (by omega), g_ib (by omega) (by omega), g_ib (by omega) (by omega), nI_clamp (by omega), b1 _ (by omega), i1, i1]
        refine ih (i + 1) _ (by omega) (by omega) (fz_then g (by omega) (by omega)) (fun v hv => ?_)
        rw [eqc_s]
        by_cases q : v = E i
        · subst q
          rw [mi_eq, if_pos rfl]
        · rw [mi_ni q, if_neg (fun h => q h.symm), Nat.add_zero]
          exact b1 v hv
  exact key F 0 M1 (by omega) (by omega) g1' (fun v hv => by rw [q1 v (by omega)]; rfl)
