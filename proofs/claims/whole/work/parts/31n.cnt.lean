/-! ===== circuitCount: both sides' product, the reference's matrix ===== -/
theorem nzf : ∀ f, f < 256 → (f = 0 ∨ (nI f).toInt64 ≠ 0) := fun f hf => co_dec (P := fun f => f = 0 ∨ (nI f).toInt64 ≠ 0) (N := 256) (by decide +kernel) hf
theorem p_deg {F m V v : Nat} {E : Nat → Nat} {M : sm_M} (hf : fanp M 9 E m V) (hm : m ≤ 200) (hV : V ≤ 199) (hv : v < V) : f_X3_degree F 9 (nI v) M = some (nI (eqc E v m)) := by
  unfold f_X3_degree
  have e1 : M.1 (9 + 3) (v + 1) = nI (ltc E m (v + 1)) := hf.2.1 (v + 1) (by omega)
  have e2 : M.1 (9 + 3) v = nI (ltc E m v) := hf.2.1 v (by omega)
  have e3 := ltc_s (E := E) (m := m) (v := v)
  have e4 := ltc_le (E := E) (m := m) (v := v + 1)
  rw [nl_1, nI_add, g_ib (by omega) (by omega), g_ib (by omega) (by omega), nI_clamp (by omega), nI_clamp (by omega), e1, e2, pk_sub (by omega), e3, Nat.add_sub_cancel_left]
theorem eqc_le {E : Nat → Nat} {v m : Nat} : eqc E v m ≤ m := fb_ct_le _ _
theorem p_c39 {F o v d : Nat} {M : sm_M} {kb30 : Int32 → Int64 → Int32 → sm_M → Option (Int64 × sm_M)} {Q : Int64 × sm_M → Prop} (hd : f_X3_degree F 9 (nI v) M = some (nI d)) (hd2 : d ≤ 200) : ∀ (z f zf : Nat) (x : Int64), d < z + f → 0 < z → d < zf + f → 0 < zf → 2 ≤ f → (pfl d zf f x = none → Q (-1, M)) → (∀ y, pfl d zf f x = some y → okp (kb30 (nI o) y (nI (v + 1)) M) Q) → f ≤ 201 → okp (f_X0_count_39 F kb30 z (nI o) x (nI v) (nI f) M) Q := by
  intro z
  induction z with
  | zero => intro f zf x a b; omega
  | succ z ih =>
    intro f zf x a1 _ a2 a3 a4 hn hk hf
    cases zf with
    | zero => omega
    | succ zf =>
      show okp (f_X0_count_39b F kb30 (f_X0_count_39 F kb30 z) _ _ _ _ _) _
      unfold f_X0_count_39b
      rw [hd, Option.bind_some]
      rw [pfl] at hn hk
      by_cases c : d ≤ f
      · rw [if_pos c] at hk
        rw [if_pos (nI_le c (by omega)), i1]
        exact hk x rfl
      · rw [if_neg c] at hk hn
        rw [if_neg (nI_ge (by omega) (by omega)), g_nzl ((nzf f (by omega)).resolve_left (by omega)), i1]
        by_cases q : lg_cmp x ((9223372036854775807 : Int64) / (nI f).toInt64) ≤ 0
        · rw [if_pos q] at hk hn
          rw [if_pos q]
          exact ih (f + 1) zf _ (by omega) (by omega) (by omega) (by omega) (by omega) hn hk (by omega)
        · rw [if_neg q] at hn
          rw [if_neg q]
          exact okp_some (hn rfl)
theorem p_c30 {F m V : Nat} {E : Nat → Nat} {M : sm_M} (hF : 300 < F) (hf : fanp M 9 E m V) (hm : m ≤ 200) (hV : V ≤ 8) (hV1 : 1 ≤ V) : ∀ (z v zf : Nat) (x : Int64), V < z + v → V < zf + v → v ≤ V → okp (f_X0_count_30 F z (nI (V - 1)) x (nI v) M) (fun r => r.2 = M ∧ r.1 = (pvl (fun v => eqc E v m) V zf v x).getD (-1)) := by
  intro z
  induction z with
  | zero => intro v zf x a; omega
  | succ z ih =>
    intro v zf x a1 a2 a3
    cases zf with
    | zero => omega
    | succ zf =>
      show okp (f_X0_count_30b F (f_X0_count_30 F z) _ _ _ _) _
      unfold f_X0_count_30b
      rw [pvl]
      by_cases c : V ≤ v
      · rw [if_pos c, if_pos (nI_lt (by omega) (by omega))]
        exact okp_some ⟨rfl, rfl⟩
      · have hl := eqc_le (E := E) (v := v) (m := m)
        rw [if_neg c, if_neg (fun q => absurd (nI_le (a := v) (b := V - 1) (by omega) (by omega)) (fa_of_lt q).2.1), nl_2]
        refine p_c39 (p_deg hf hm (by omega) (by omega)) (by omega) F 2 300 x (by omega) (by omega) (by omega) (by omega) (by omega) (fun q => ?_) (fun y q => ?_) (by omega)
        · rw [q]
          exact ⟨rfl, rfl⟩
        · rw [q]
          exact ih (v + 1) zf y (by omega) (by omega) (by omega)
theorem p_m185 {F v d : Nat} {M : sm_M} {kb132 : Int64 → Int32 → sm_M → Option (Int64 × sm_M)} {Q : Int64 × sm_M → Prop} (hd2 : d ≤ 200) : ∀ (z f zf : Nat) (x : Int64), d < z + f → 0 < z → d < zf + f → 0 < zf → 2 ≤ f → (pfl d zf f x = none → Q ((nI 0).toInt64, sm_mi M 80 0 3)) → (∀ y, pfl d zf f x = some y → okp (kb132 y (nI (v + 1)) M) Q) → f ≤ 201 → okp (f_X12_circuitCount_185 F kb132 z x (nI v) (nI d) (nI f) M) Q := by
  intro z
  induction z with
  | zero => intro f zf x a b; omega
  | succ z ih =>
    intro f zf x a1 _ a2 a3 a4 hn hk hf
    cases zf with
    | zero => omega
    | succ zf =>
      show okp (f_X12_circuitCount_185b F kb132 (f_X12_circuitCount_185 F kb132 z) _ _ _ _ _) _
      unfold f_X12_circuitCount_185b
      rw [pfl] at hn hk
      by_cases c : d ≤ f
      · rw [if_pos c] at hk
        rw [if_pos (nI_le c (by omega)), i1]
        exact hk x rfl
      · rw [if_neg c] at hk hn
        rw [if_neg (nI_ge (by omega) (by omega)), g_nzl ((nzf f (by omega)).resolve_left (by omega)), i1]
        by_cases q : lg_cmp x ((9223372036854775807 : Int64) / (nI f).toInt64) ≤ 0
        · rw [if_pos q] at hk hn
          rw [if_pos q]
          exact ih (f + 1) zf _ (by omega) (by omega) (by omega) (by omega) (by omega) hn hk (by omega)
        · rw [if_neg q] at hn
          rw [if_neg q]
          exact okp_some (hn rfl)
theorem p_m146 {F v m : Nat} {E : Nat → Nat} {M : sm_M} {kb132 : Int64 → Int32 → sm_M → Option (Int64 × sm_M)} {Q : Int64 × sm_M → Prop} (hF : 300 < F) (hm : m ≤ 200) (hv : v < 200) (h5 : M.1 80 5 = nI m) (hE : ∀ e, e < m → M.1 84 e = nI (E e) ∧ E e < 200) {x : Int64} (hn : pfl (eqc E v m) 300 2 x = none → Q ((nI 0).toInt64, sm_mi M 80 0 3)) (hk : ∀ y, pfl (eqc E v m) 300 2 x = some y → okp (kb132 y (nI (v + 1)) M) Q) : ∀ (z e : Nat), m < z + e → e ≤ m → okp (f_X12_circuitCount_146 F kb132 z x (nI v) (nI (eqc E v e)) (nI e) M) Q := by
  intro z
  induction z with
  | zero => intro e a b; omega
  | succ z ih =>
    intro e a1 a2
    show okp (f_X12_circuitCount_146b F kb132 (f_X12_circuitCount_146 F kb132 z) _ _ _ _ _) _
    unfold f_X12_circuitCount_146b f_X12_circuitCount_173
    rw [h5]
    by_cases c : m ≤ e
    · have e9 : e = m := by omega
      subst e9
      have hl := eqc_le (E := E) (v := v) (m := e)
      rw [if_pos (nI_le c (by omega)), nl_2]
      exact p_m185 (by omega) F 2 300 x (by omega) (by omega) (by omega) (by omega) (by omega) hn hk (by omega)
    · obtain ⟨x1, x2⟩ := hE e (by omega)
      have ih1 := ih (e + 1) (by omega) (by omega)
      rw [eqc_s] at ih1
      rw [if_neg (nI_ge (by omega) (by omega)), g_ib (by omega) (by omega), nI_clamp (by omega), x1, nl_0, nl_1, nI_add, nI_add, nI_add]
      by_cases q : E e = v
      · rw [if_pos q] at ih1
        rw [if_pos (by rw [q])]
        exact ih1
      · rw [if_neg q] at ih1
        rw [if_neg (fun r => q ((nI_eq (by omega) (by omega)).mp r))]
        exact ih1
theorem p_m132 {F m V : Nat} {E : Nat → Nat} {M : sm_M} (hF : 300 < F) (hm : m ≤ 200) (hV : V ≤ 8) (h7 : M.1 80 7 = nI V) (h5 : M.1 80 5 = nI m) (hE : ∀ e, e < m → M.1 84 e = nI (E e) ∧ E e < 200) : ∀ (z v zf : Nat) (x : Int64), V < z + v → V < zf + v → v ≤ V → okp (f_X12_circuitCount_132 F z x (nI v) M) (fun r => (∀ y, pvl (fun v => eqc E v m) V zf v x = some y → r = (y, M)) ∧ (pvl (fun v => eqc E v m) V zf v x = none → r.2 = sm_mi M 80 0 3)) := by
  intro z
  induction z with
  | zero => intro v zf x a; omega
  | succ z ih =>
    intro v zf x a1 a2 a3
    cases zf with
    | zero => omega
    | succ zf =>
      show okp (f_X12_circuitCount_132b F (f_X12_circuitCount_132 F z) _ _ _) _
      unfold f_X12_circuitCount_132b
      rw [pvl, h7]
      by_cases c : V ≤ v
      · rw [if_pos c, if_pos (nI_le c (by omega))]
        exact okp_some ⟨fun y q => (by cases q; rfl), fun q => (by cases q)⟩
      · rw [if_neg c, if_neg (nI_ge (by omega) (by omega)), nl_0]
        refine p_m146 hF hm (by omega) h5 hE (fun q => ?_) (fun y q => ?_) F 0 (by omega) (by omega)
        · rw [q]
          exact ⟨fun y q => (by cases q), fun _ => rfl⟩
        · rw [q]
          exact ih (v + 1) zf y (by omega) (by omega) (by omega)
theorem p_mn18 {F V r : Nat} {A : Nat → Nat → Int64} {M : sm_M} {rec : Int32 → Int32 → sm_M → Option Int64} {rec' : Int32 → Option Int64} (hV : V ≤ 8) (hr2 : r < V) (h7 : M.1 80 7 = nI V) (hA : ∀ i j, i < V → j < V → M.2 100 (8 * i + j) = A i j) (hrec : ∀ m, rec (nI (r + 1)) m M = rec' m) : ∀ (z c zf : Nat) (mask : Int32) (sum : Int64) (sg : Int32), V < z + c → V < zf + c → c ≤ V → f_X12_minor_18 F rec z (nI r) mask sum sg (nI c) M = mnl V A rec' r zf mask sum sg c := by
  intro z
  induction z with
  | zero => intro c zf mask sum sg a; omega
  | succ z ih =>
    intro c zf mask sum sg a1 a2 a3
    cases zf with
    | zero => omega
    | succ zf =>
      show f_X12_minor_18b F rec (f_X12_minor_18 F rec z) _ _ _ _ _ _ = _
      unfold f_X12_minor_18b f_X12_minor_88 f_X12_minor_95
      rw [mnl, h7]
      by_cases q : V ≤ c
      · rw [if_pos q, if_pos (nI_le q (by omega))]
      · have e8 : (8 : Int32) * nI r + nI c = nI (8 * r + c) := by rw [nl_8, pk_mul, nI_add]
        rw [if_neg q, if_neg (nI_ge (by omega) (by omega)), e8, g_ib (by omega) (by omega), g_ib (by omega) (by omega), nI_clamp (by omega), hA r c hr2 (by omega), i1, i1, hrec]
        by_cases w : ((mask >>> (nI c &&& 31)) &&& (1 : Int32)) = 0
        · rw [if_pos w, if_pos w]
          by_cases y : A r c = 0
          · rw [if_pos y, if_pos (show lg_cmp (A r c) 0 = 0 by rw [y]; exact lj_cmp0 0)]
            exact ih (c + 1) zf _ _ _ (by omega) (by omega) (by omega)
          · rw [if_neg y, if_neg (show ¬ lg_cmp (A r c) 0 = 0 from fun t => y (lc_0 t))]
            cases hq : rec' (mask ||| ((1 : Int32) <<< (nI c &&& 31))) with
            | none => rfl
            | some q0 =>
              rw [Option.bind_some, Option.bind_some]
              exact ih (c + 1) zf _ _ _ (by omega) (by omega) (by omega)
        · rw [if_neg w, if_neg w]
          exact ih (c + 1) zf _ _ _ (by omega) (by omega) (by omega)
theorem p_mnR {F V : Nat} {A : Nat → Nat → Int64} {M : sm_M} (hF : 300 < F) (hV : V ≤ 8) (h7 : M.1 80 7 = nI V) (hA : ∀ i j, i < V → j < V → M.2 100 (8 * i + j) = A i j) : ∀ (z r : Nat) (mask : Int32), r ≤ V → f_X12_minorR F z (nI r) mask M = mnr V A z r mask := by
  intro z
  induction z with
  | zero => intro r mask h; rfl
  | succ z ih =>
    intro r mask h
    show f_X12_minorB F (f_X12_minorR F z) _ _ _ = _
    unfold f_X12_minorB
    rw [mnr, h7]
    by_cases q : r = V
    · rw [if_pos q, if_pos (by rw [q])]
    · rw [if_neg q, if_neg (fun w => q ((nI_eq (by omega) (by omega)).mp w))]
      show f_X12_minor_18 F (f_X12_minorR F z) F (nI r) mask 0 1 (nI 1) M = _
      by_cases v1 : V = 0
      · omega
      · exact p_mn18 hV (by omega) h7 hA (fun m => ih (r + 1) m (by omega)) F 1 9 _ _ _ (by omega) (by omega) (by omega)
theorem p_m66 {F m V : Nat} {E T : Nat → Nat} {M0 : sm_M} {Q : Int64 × sm_M → Prop} (hF : 300 < F) (hm : m ≤ 200) (hV : V ≤ 8) (h5 : M0.1 80 5 = nI m) (hE : ∀ e, e < m → (M0.1 84 e = nI (E e) ∧ E e < V) ∧ M0.1 85 e = nI (T e) ∧ T e < V)
    (hk : ∀ M', fz 100 101 M0 M' → M'.1 = M0.1 → (∀ i j, i < V → j < V → M'.2 100 (8 * i + j) = Int64.ofInt (lapE E T i j m)) → okp ((f_X12_minor F (1 : Int32) (0 : Int32) M').bind fun q2 => f_X12_circuitCount_132 F F q2 (0 : Int32) M') Q) : ∀ (z e : Nat) (M : sm_M), m < z + e → e ≤ m → fz 100 101 M0 M → M.1 = M0.1 → (∀ i j, i < V → j < V → M.2 100 (8 * i + j) = Int64.ofInt (lapE E T i j e)) → okp (f_X12_circuitCount_66 F z (nI e) M) Q := by
  intro z
  induction z with
  | zero => intro e M a b; omega
  | succ z ih =>
    intro e M a1 a2 g em b1
    show okp (f_X12_circuitCount_66b F (f_X12_circuitCount_66 F z) _ _) _
    unfold f_X12_circuitCount_66b
    simp only [ml_1]
    rw [em, h5]
    by_cases c : m ≤ e
    · have e9 : e = m := by omega
      subst e9
      rw [if_pos (nI_le c (by omega))]
      exact hk M g em b1
    · obtain ⟨⟨x1, x2⟩, y1, y2⟩ := hE e (by omega)
      have e9 : (9 : Int32) * nI (E e) = nI (9 * E e) := by rw [show (9 : Int32) = nI 9 from rfl, pk_mul]
      have e8 : (8 : Int32) * nI (E e) + nI (T e) = nI (8 * E e + T e) := by rw [nl_8, pk_mul, nI_add]
      rw [if_neg (nI_ge (by omega) (by omega))]
      simp only [g_ib (show e < 200 by omega) (show 200 < 2 ^ 31 by omega), nI_clamp (show e < 2 ^ 31 by omega), x1, y1, e9, e8, nI_clamp (show 9 * E e < 2 ^ 31 by omega), nI_clamp (show 8 * E e + T e < 2 ^ 31 by omega), g_ib (show 9 * E e < 64 by omega) (show 64 < 2 ^ 31 by omega), g_ib (show 8 * E e + T e < 64 by omega) (show 64 < 2 ^ 31 by omega), i1]
      refine ih (e + 1) _ (by omega) (by omega) (fz_tr (fz_tr (l := 100) (h := 101) g (fz_ml (l := 100) (h := 101) (by omega) (by omega)) (by omega) (by omega) (by omega) (by omega)) (fz_ml (l := 100) (h := 101) (by omega) (by omega)) (by omega) (by omega) (by omega) (by omega)) em (fun i j hi hj => ?_)
      have f8 : ∀ x, (sm_ml M 100 (9 * E e) (M.2 100 (9 * E e) + 1)).2 100 x = if x = 9 * E e then M.2 100 x + 1 else M.2 100 x := fun x => by
        by_cases r : x = 9 * E e
        · rw [if_pos r, r, ml_eq]
        · rw [if_neg r, ml_ni r]
      have f7 : (sm_ml (sm_ml M 100 (9 * E e) (M.2 100 (9 * E e) + 1)) 100 (8 * E e + T e) ((sm_ml M 100 (9 * E e) (M.2 100 (9 * E e) + 1)).2 100 (8 * E e + T e) - 1)).2 100 (8 * i + j) = if 8 * i + j = 8 * E e + T e then (if 8 * i + j = 9 * E e then M.2 100 (8 * i + j) + 1 else M.2 100 (8 * i + j)) - 1 else (if 8 * i + j = 9 * E e then M.2 100 (8 * i + j) + 1 else M.2 100 (8 * i + j)) := by
        rw [← f8 (8 * i + j)]
        by_cases r : 8 * i + j = 8 * E e + T e
        · rw [if_pos r, r, ml_eq]
        · rw [if_neg r, ml_ni r]
      refine f7.trans ?_
      rw [lap_s, b1 i j hi hj]
      by_cases r1 : i = E e
      · by_cases r2 : j = E e
        · rw [if_pos (show i = j ∧ E e = i from ⟨by omega, by omega⟩), if_pos (show 8 * i + j = 9 * E e by omega)]
          by_cases r3 : j = T e
          · rw [if_pos (by omega), if_pos ⟨by omega, by omega⟩, o1L, ← Int64.ofInt_add, ← Int64.ofInt_sub]
          · rw [if_neg (by omega), if_neg (fun w => by omega), o1L, ← Int64.ofInt_add]
            congr 1
            omega
        · rw [if_neg (show ¬ (i = j ∧ E e = i) from fun w => by omega), if_neg (show ¬ 8 * i + j = 9 * E e by omega)]
          by_cases r3 : j = T e
          · rw [if_pos (by omega), if_pos ⟨by omega, by omega⟩, o1L, ← Int64.ofInt_sub]
            congr 1
            omega
          · rw [if_neg (by omega), if_neg (fun w => by omega)]
            congr 1
            omega
      · rw [if_neg (show ¬ (i = j ∧ E e = i) from fun w => by omega), if_neg (by omega), if_neg (by omega), if_neg (fun w => by omega)]
        congr 1
        omega
theorem p_m45 {F m V : Nat} {E T : Nat → Nat} {M0 : sm_M} {Q : Int64 × sm_M → Prop} (hF : 300 < F) (hm : m ≤ 200) (hV : V ≤ 8) (h5 : M0.1 80 5 = nI m) (hE : ∀ e, e < m → (M0.1 84 e = nI (E e) ∧ E e < V) ∧ M0.1 85 e = nI (T e) ∧ T e < V)
    (hk : ∀ M', fz 100 101 M0 M' → M'.1 = M0.1 → (∀ i j, i < V → j < V → M'.2 100 (8 * i + j) = Int64.ofInt (lapE E T i j m)) → okp ((f_X12_minor F (1 : Int32) (0 : Int32) M').bind fun q2 => f_X12_circuitCount_132 F F q2 (0 : Int32) M') Q) : ∀ (z i : Nat) (M : sm_M), 64 < z + i → i ≤ 64 → fz 100 101 M0 M → M.1 = M0.1 → (∀ j, j < i → M.2 100 j = 0) → okp (f_X12_circuitCount_45 F z (nI i) M) Q := by
  intro z
  induction z with
  | zero => intro e M a b; omega
  | succ z ih =>
    intro i M a1 a2 g em b1
    show okp (f_X12_circuitCount_45b F (f_X12_circuitCount_45 F z) _ _) _
    unfold f_X12_circuitCount_45b
    rw [show (64 : Int32) = nI 64 from rfl]
    by_cases c : 64 ≤ i
    · rw [if_pos (show nI 64 ≤ nI i from nI_le c (by omega)), nl_0]
      refine p_m66 (M0 := M0) hF hm hV h5 hE hk F 0 M (by omega) (by omega) g em (fun i j hi hj => ?_)
      rw [b1 _ (by omega)]
      have : lapE E T i j 0 = 0 := by
        unfold lapE eqc c2
        show (if i = j then ((0 : Nat) : Int) else 0) - ((0 : Nat) : Int) = 0
        split <;> rfl
      rw [this]
      rfl
    · rw [if_neg (show ¬ nI 64 ≤ nI i from nI_ge (by omega) (by omega)), g_ib (by omega) (by omega), nI_clamp (by omega), i1]
      refine ih (i + 1) _ (by omega) (by omega) (fz_tr g (fz_ml (l := 100) (h := 101) (by omega) (by omega)) (by omega) (by omega) (by omega) (by omega)) em (fun j hj => ?_)
      by_cases q : j = i
      · subst q
        rw [ml_eq]
      · rw [ml_ni q]
        exact b1 j (by omega)
