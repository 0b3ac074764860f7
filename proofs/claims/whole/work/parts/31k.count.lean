/-! ===== circuitCount: the matrix and the class's determinant ===== -/
def c2 (E T : Nat → Nat) (i j e : Nat) : Nat := fb_ct (fun x => decide (E x = i) && decide (T x = j)) e
def lapE (E T : Nat → Nat) (i j e : Nat) : Int := (if i = j then (eqc E i e : Int) else 0) - (c2 E T i j e : Int)
theorem c2_s {E T : Nat → Nat} {i j e : Nat} : c2 E T i j (e + 1) = c2 E T i j e + (if E e = i ∧ T e = j then 1 else 0) := by
  unfold c2
  rw [fb_ct_succ]
  simp
theorem lap_s {E T : Nat → Nat} {i j e : Nat} : lapE E T i j (e + 1) = lapE E T i j e + (if i = j ∧ E e = i then 1 else 0) - (if E e = i ∧ T e = j then 1 else 0) := by
  unfold lapE
  rw [c2_s, eqc_s]
  by_cases a : i = j
  · by_cases b : E e = i
    · by_cases c : T e = j
      · simp only [a, b, c, if_true, and_self, true_and]; simp; omega
      · simp only [if_pos a, if_pos b, if_neg (show ¬ (E e = i ∧ T e = j) from fun q => c q.2), if_pos (show i = j ∧ E e = i from ⟨a, b⟩)]; omega
    · simp only [if_pos a, if_neg b, if_neg (show ¬ (E e = i ∧ T e = j) from fun q => b q.1), if_neg (show ¬ (i = j ∧ E e = i) from fun q => b q.2)]; omega
  · by_cases b : E e = i ∧ T e = j
    · simp only [if_neg a, if_pos b, if_neg (show ¬ (i = j ∧ E e = i) from fun q => a q.1)]; omega
    · simp only [if_neg a, if_neg b, if_neg (show ¬ (i = j ∧ E e = i) from fun q => a q.1)]; omega
theorem o1L : (1 : Int64) = Int64.ofInt 1 := rfl
theorem p_fillL {F a0 n0 : Nat} {x1 : Int64} {M : sm_M} (hF : n0 < F) (hn : n0 < 2 ^ 31) : okp (f_J7_fill_d0a16 F a0 n0 x1 M) (fun M' => (∀ j, j < n0 → M'.2 a0 j = x1) ∧ fz a0 (a0 + 1) M M' ∧ M'.1 = M.1) := by
  have key : ∀ (z i : Nat) (M1 : sm_M), n0 < z + i → i ≤ n0 → fz a0 (a0 + 1) M M1 → M1.1 = M.1 → (∀ j, j < i → M1.2 a0 j = x1) → okp (f_J7_fill_d0a16_6 F a0 n0 z x1 (nI i) (nI n0) M1) (fun M' => (∀ j, j < n0 → M'.2 a0 j = x1) ∧ fz a0 (a0 + 1) M M' ∧ M'.1 = M.1) := by
    intro z
    induction z with
    | zero => intro i M1 a b; omega
    | succ z ih =>
      intro i M1 a1 a2 g e b1
      show okp (f_J7_fill_d0a16_6b F a0 n0 (f_J7_fill_d0a16_6 F a0 n0 z) x1 (nI i) (nI n0) M1) _
      unfold f_J7_fill_d0a16_6b
      by_cases c : n0 ≤ i
      · rw [if_pos (nI_le c (by omega))]
        exact okp_some ⟨fun j hj => b1 j (by omega), g, e⟩
      · rw [if_neg (nI_ge (by omega) (by omega)), g_ib (by omega) (by omega), nI_clamp (by omega), i1]
        refine ih (i + 1) _ (by omega) (by omega) (fz_tr g (fz_ml (l := a0) (h := a0 + 1) (by omega) (by omega)) (by omega) (by omega) (by omega) (by omega)) e (fun j hj => ?_)
        by_cases q : j = i
        · subst q
          rw [ml_eq]
        · rw [ml_ni q]
          exact b1 j (by omega)
  exact key F 0 M (by omega) (by omega) fz_refl rfl (fun j hj => by omega)
theorem p_fm25 {F m o : Nat} {E T : Nat → Nat} {M0 : sm_M} (hm : m ≤ 200) (ho : o ≤ 7) (h10 : M0.1 5 10 = nI m) (hE : ∀ e, e < m → M0.1 10 e = nI (E e) ∧ E e ≤ o) (hT : ∀ e, e < m → M0.1 14 e = nI (T e) ∧ T e ≤ o) : ∀ (z e : Nat) (M : sm_M), m < z + e → e ≤ m → fz 69 76 M0 M → M.1 = M0.1 → (∀ i j, i < o → j < o → M.2 (69 + i) j = Int64.ofInt (lapE E T (i + 1) (j + 1) e)) → okp (f_X0_fillMatrix_25 F z (nI o) (nI e) M) (fun M' => (∀ i j, i < o → j < o → M'.2 (69 + i) j = Int64.ofInt (lapE E T (i + 1) (j + 1) m)) ∧ fz 69 76 M0 M' ∧ M'.1 = M0.1) := by
  intro z
  induction z with
  | zero => intro e M a b; omega
  | succ z ih =>
    intro e M a1 a2 g em b1
    show okp (f_X0_fillMatrix_25b F (f_X0_fillMatrix_25 F z) _ _ _) _
    unfold f_X0_fillMatrix_25b f_X0_fillMatrix_109
    rw [em, h10]
    by_cases c : m ≤ e
    · have e9 : e = m := by omega
      subst e9
      rw [if_pos (nI_le c (by omega))]
      exact okp_some ⟨b1, g, em⟩
    · obtain ⟨x1, x2⟩ := hE e (by omega)
      obtain ⟨y1, y2⟩ := hT e (by omega)
      rw [if_neg (nI_ge (by omega) (by omega))]
      simp only [g_ib (show e < 200 by omega) (show 200 < 2 ^ 31 by omega), nI_clamp (show e < 2 ^ 31 by omega), x1, y1, nl_1, nI_add]
      by_cases f0 : E e = 0
      · rw [if_pos (by rw [f0]; decide)]
        refine ih (e + 1) M (by omega) (by omega) g em (fun i j hi hj => ?_)
        rw [b1 i j hi hj, lap_s, if_neg (fun q => by omega), if_neg (fun q => by omega)]
        congr 1
        omega
      · have ef : nI (E e) - nI 1 = nI (E e - 1) := pk_sub (by omega)
        rw [ef, if_neg (nI_pos (by omega)), if_neg (nI_ge (by omega) (by omega))]
        simp only [g_ib (show E e - 1 < 7 by omega) (show 7 < 2 ^ 31 by omega), nI_clamp (show E e - 1 < 2 ^ 31 by omega)]
        have g1 : fz 69 76 M0 (sm_ml M (69 + (E e - 1)) (E e - 1) (M.2 (69 + (E e - 1)) (E e - 1) + 1)) := fz_tr g (fz_ml (l := 69) (h := 76) (by omega) (by omega)) (by omega) (by omega) (by omega) (by omega)
        by_cases t0 : T e = 0
        · rw [if_pos (by rw [t0]; decide)]
          refine ih (e + 1) _ (by omega) (by omega) g1 em (fun i j hi hj => ?_)
          rw [lap_s, if_neg (show ¬ (E e = i + 1 ∧ T e = j + 1) from fun q => by omega)]
          by_cases q : i = E e - 1 ∧ j = E e - 1
          · obtain ⟨q1, q2⟩ := q
            subst q1
            subst q2
            rw [ml_eq, b1 _ _ hi hj, if_pos ⟨rfl, by omega⟩, o1L, ← Int64.ofInt_add]
            congr 1
            omega
          · rw [if_neg (show ¬ (i + 1 = j + 1 ∧ E e = i + 1) from fun r => q (by omega))]
            have e8 : (sm_ml M (69 + (E e - 1)) (E e - 1) (M.2 (69 + (E e - 1)) (E e - 1) + 1)).2 (69 + i) j = M.2 (69 + i) j := by
              simp only [sm_ml]
              rw [if_neg (fun r => q (by omega))]
            rw [e8, b1 i j hi hj]
            congr 1
            omega
        · have et : nI (T e) - nI 1 = nI (T e - 1) := pk_sub (by omega)
          rw [et, if_neg (nI_pos (by omega)), if_neg (nI_ge (by omega) (by omega))]
          simp only [g_ib (show T e - 1 < 7 by omega) (show 7 < 2 ^ 31 by omega), nI_clamp (show T e - 1 < 2 ^ 31 by omega)]
          refine ih (e + 1) _ (by omega) (by omega) (fz_tr g1 (fz_ml (l := 69) (h := 76) (by omega) (by omega)) (by omega) (by omega) (by omega) (by omega)) em (fun i j hi hj => ?_)
          have e8 : ∀ i j, (sm_ml M (69 + (E e - 1)) (E e - 1) (M.2 (69 + (E e - 1)) (E e - 1) + 1)).2 (69 + i) j = if i = E e - 1 ∧ j = E e - 1 then M.2 (69 + i) j + 1 else M.2 (69 + i) j := fun i j => by
            simp only [sm_ml]
            by_cases r : i = E e - 1 ∧ j = E e - 1
            · obtain ⟨r1, r2⟩ := r
              rw [if_pos (show i = E e - 1 ∧ j = E e - 1 from ⟨r1, r2⟩), if_pos (show 69 + i = 69 + (E e - 1) ∧ j = E e - 1 from ⟨by omega, r2⟩), r1, r2]
            · rw [if_neg r, if_neg (fun w => r ⟨by omega, by omega⟩)]
          have e7 : (sm_ml (sm_ml M (69 + (E e - 1)) (E e - 1) (M.2 (69 + (E e - 1)) (E e - 1) + 1)) (69 + (E e - 1)) (T e - 1) ((sm_ml M (69 + (E e - 1)) (E e - 1) (M.2 (69 + (E e - 1)) (E e - 1) + 1)).2 (69 + (E e - 1)) (T e - 1) - 1)).2 (69 + i) j = if i = E e - 1 ∧ j = T e - 1 then (if i = E e - 1 ∧ j = E e - 1 then M.2 (69 + i) j + 1 else M.2 (69 + i) j) - 1 else (if i = E e - 1 ∧ j = E e - 1 then M.2 (69 + i) j + 1 else M.2 (69 + i) j) := by
            rw [← e8 i j]
            by_cases r : i = E e - 1 ∧ j = T e - 1
            · rw [if_pos r, r.1, r.2, ml_eq]
            · rw [if_neg r]
              conv => lhs; simp only [sm_ml]
              rw [if_neg (fun w => r (by omega))]
              rfl
          refine e7.trans ?_
          rw [lap_s, b1 i j hi hj]
          by_cases r1 : i = E e - 1
          · by_cases r2 : j = E e - 1
            · rw [if_pos (show i + 1 = j + 1 ∧ E e = i + 1 from ⟨by omega, by omega⟩)]
              by_cases r3 : j = T e - 1
              · rw [if_pos ⟨r1, r3⟩, if_pos ⟨r1, r2⟩, if_pos ⟨by omega, by omega⟩, o1L, ← Int64.ofInt_add, ← Int64.ofInt_sub]
              · rw [if_neg (fun w => r3 w.2), if_pos ⟨r1, r2⟩, if_neg (fun w => by omega), o1L, ← Int64.ofInt_add]
                congr 1
                omega
            · rw [if_neg (show ¬ (i + 1 = j + 1 ∧ E e = i + 1) from fun w => by omega)]
              by_cases r3 : j = T e - 1
              · rw [if_pos ⟨r1, r3⟩, if_neg (fun w => r2 w.2), if_pos ⟨by omega, by omega⟩, o1L, ← Int64.ofInt_sub]
                congr 1
                omega
              · rw [if_neg (fun w => r3 w.2), if_neg (fun w => r2 w.2), if_neg (fun w => by omega)]
                congr 1
                omega
          · rw [if_neg (show ¬ (i + 1 = j + 1 ∧ E e = i + 1) from fun w => by omega), if_neg (fun w => r1 w.1), if_neg (fun w => r1 w.1), if_neg (fun w => by omega)]
            congr 1
            omega
theorem cc_fm {F m o : Nat} {E T : Nat → Nat} {M : sm_M} (hF : 300 < F) (hm : m ≤ 200) (ho : o ≤ 7) (h10 : M.1 5 10 = nI m) (hE : ∀ e, e < m → M.1 10 e = nI (E e) ∧ E e ≤ o) (hT : ∀ e, e < m → M.1 14 e = nI (T e) ∧ T e ≤ o) : okp (f_X0_fillMatrix F (nI o) M) (fun M' => (∀ i j, i < o → j < o → M'.2 (69 + i) j = Int64.ofInt (lapE E T (i + 1) (j + 1) m)) ∧ fz 69 76 M M' ∧ M'.1 = M.1) := by
  have key : ∀ (z r : Nat) (M1 : sm_M), o < z + r → r ≤ o → fz 69 76 M M1 → M1.1 = M.1 → (∀ i j, i < r → j < 7 → M1.2 (69 + i) j = 0) → okp (f_X0_fillMatrix_2 F z (nI o) (nI r) M1) (fun M' => (∀ i j, i < o → j < o → M'.2 (69 + i) j = Int64.ofInt (lapE E T (i + 1) (j + 1) m)) ∧ fz 69 76 M M' ∧ M'.1 = M.1) := by
    intro z
    induction z with
    | zero => intro r M1 a b; omega
    | succ z ih =>
      intro r M1 a1 a2 g em b1
      show okp (f_X0_fillMatrix_2b F (f_X0_fillMatrix_2 F z) _ _ _) _
      unfold f_X0_fillMatrix_2b
      by_cases c : o ≤ r
      · rw [if_pos (nI_le c (by omega)), nl_0]
        refine okp_mono (p_fm25 (M0 := M1) hm ho (by rw [em]; exact h10) (fun e he => by rw [em]; exact hE e he) (fun e he => by rw [em]; exact hT e he) F 0 M1 (by omega) (by omega) fz_refl rfl (fun i j hi hj => ?_)) ?_
        · rw [b1 i j (by omega) (by omega)]
          have : lapE E T (i + 1) (j + 1) 0 = 0 := by
            unfold lapE eqc c2
            show (if i + 1 = j + 1 then ((0 : Nat) : Int) else 0) - ((0 : Nat) : Int) = 0
            split <;> rfl
          rw [this]
          rfl
        · rintro M' ⟨r1, r2, r3⟩
          exact ⟨r1, fz_tr g r2 (by omega) (by omega) (by omega) (by omega), r3.trans em⟩
      · rw [if_neg (nI_ge (by omega) (by omega)), g_ib (by omega) (by omega), nI_clamp (by omega)]
        refine okp_bind (p_fillL (by omega) (by omega)) ?_
        rintro M2 ⟨q1, g2, e2⟩
        rw [i1]
        refine ih (r + 1) M2 (by omega) (by omega) (fz_tr g g2 (by omega) (by omega) (by omega) (by omega)) (e2.trans em) (fun i j hi hj => ?_)
        by_cases q : i = r
        · subst q
          exact q1 j hj
        · rw [fz_2 g2 (by omega)]
          exact b1 i j (by omega) hj
  exact key F 0 M (by omega) (by omega) fz_refl rfl (fun i j hi _ => by omega)
/-! Bareiss -/
def up2 (A : Nat → Nat → Int64) (r c : Nat) (x : Int64) : Nat → Nat → Int64 := fun i j => if i = r ∧ j = c then x else A i j
def bcl (o st r : Nat) (pv dv : Int64) : Nat → Nat → (Nat → Nat → Int64) → Nat → Nat → Int64
  | 0, _, A => A
  | z + 1, c, A => if o ≤ c then A else bcl o st r pv dv z (c + 1) (up2 A r c ((A r c * pv - A r st * A st c) / dv))
def brl (o st : Nat) (pv dv : Int64) : Nat → Nat → (Nat → Nat → Int64) → Nat → Nat → Int64
  | 0, _, A => A
  | z + 1, r, A => if o ≤ r then A else brl o st pv dv z (r + 1) (bcl o st r pv dv 9 (st + 1) A)
def bsl (o : Nat) : Nat → Nat → Int64 → (Nat → Nat → Int64) → Int64
  | 0, _, dv, _ => dv
  | z + 1, st, dv, A => if o ≤ st then dv else if A st st = 0 then 0 else bsl o z (st + 1) (A st st) (brl o st (A st st) dv 9 (st + 1) A)
def matp (M : sm_M) (o : Nat) (A : Nat → Nat → Int64) : Prop := ∀ i j, i < o → j < o → M.2 (69 + i) j = A i j
theorem lc_0 {x y : Int64} (h : lg_cmp x y = 0) : x = y := by
  unfold lg_cmp at h
  by_cases c : x > y
  · rw [if_pos c] at h
    exact absurd h (by decide)
  · rw [if_neg c] at h
    by_cases d : x = y
    · exact d
    · rw [if_neg d] at h
      exact absurd h (by decide)
theorem g_nzl {α : Type} {x : Int64} {k : Option α} (h : x ≠ 0) : sm_g (sm_nzl x) k = k := by
  apply g_t
  simp only [sm_nzl, Bool.not_eq_true', decide_eq_false_iff_not]
  exact h
theorem p_d50 {F o st r : Nat} {pv dv : Int64} {M0 : sm_M} {kb5 : Int32 → Int64 → Int32 → sm_M → Option (Int64 × sm_M)} {kb38 : Int32 → Int64 → Int32 → Int64 → Int32 → sm_M → Option (Int64 × sm_M)} {Q : Int64 × sm_M → Prop} (ho : o ≤ 7) (hr : r < o) (hst : st < o) (hdv : dv ≠ 0) : ∀ (z c zf : Nat) (A : Nat → Nat → Int64) (M : sm_M), o < z + c → o < zf + c → c ≤ o → fz 69 76 M0 M → M.1 = M0.1 → matp M o A → (∀ M', fz 69 76 M0 M' → M'.1 = M0.1 → matp M' o (bcl o st r pv dv zf c A) → okp (kb38 (nI o) dv (nI st) pv (nI (r + 1)) M') Q) → okp (f_X0_determinant_50 F kb5 kb38 z (nI o) dv (nI st) pv (nI r) (nI c) M) Q := by
  intro z
  induction z with
  | zero => intro c zf A M a; omega
  | succ z ih =>
    intro c zf A M a1 az a2 g em hA hk
    cases zf with
    | zero => omega
    | succ zf =>
      show okp (f_X0_determinant_50b F kb5 kb38 (f_X0_determinant_50 F kb5 kb38 z) _ _ _ _ _ _ _) _
      unfold f_X0_determinant_50b
      rw [bcl] at hk
      by_cases q : o ≤ c
      · rw [if_pos q] at hk
        rw [if_pos (nI_le q (by omega)), i1]
        exact hk M g em hA
      · rw [if_neg q] at hk
        rw [if_neg (nI_ge (by omega) (by omega))]
        simp only [g_ib (show r < 7 by omega) (show 7 < 2 ^ 31 by omega), g_ib (show st < 7 by omega) (show 7 < 2 ^ 31 by omega), g_ib (show c < 7 by omega) (show 7 < 2 ^ 31 by omega), g_nzl hdv, nI_clamp (show r < 2 ^ 31 by omega), nI_clamp (show st < 2 ^ 31 by omega), nI_clamp (show c < 2 ^ 31 by omega), hA r c hr (by omega), hA r st hr hst, hA st c hst (by omega), i1]
        refine ih (c + 1) zf _ _ (by omega) (by omega) (by omega) (fz_tr g (fz_ml (l := 69) (h := 76) (by omega) (by omega)) (by omega) (by omega) (by omega) (by omega)) em (fun i j hi hj => ?_) hk
        simp only [sm_ml, up2]
        by_cases w : i = r ∧ j = c
        · rw [if_pos w, if_pos (by omega)]
        · rw [if_neg w, if_neg (fun y => w (by omega))]
          exact hA i j hi hj
theorem p_d38 {F o st : Nat} {pv dv : Int64} {M0 : sm_M} {kb5 : Int32 → Int64 → Int32 → sm_M → Option (Int64 × sm_M)} {Q : Int64 × sm_M → Prop} (hF : 300 < F) (ho : o ≤ 7) (hst : st < o) (hdv : dv ≠ 0) : ∀ (z r zf : Nat) (A : Nat → Nat → Int64) (M : sm_M), o < z + r → o < zf + r → r ≤ o → fz 69 76 M0 M → M.1 = M0.1 → matp M o A → (∀ M', fz 69 76 M0 M' → M'.1 = M0.1 → matp M' o (brl o st pv dv zf r A) → okp (kb5 (nI o) pv (nI (st + 1)) M') Q) → okp (f_X0_determinant_38 F kb5 z (nI o) dv (nI st) pv (nI r) M) Q := by
  intro z
  induction z with
  | zero => intro c zf A M a; omega
  | succ z ih =>
    intro r zf A M a1 az a2 g em hA hk
    cases zf with
    | zero => omega
    | succ zf =>
      show okp (f_X0_determinant_38b F kb5 (f_X0_determinant_38 F kb5 z) _ _ _ _ _ _) _
      unfold f_X0_determinant_38b
      rw [brl] at hk
      by_cases q : o ≤ r
      · rw [if_pos q] at hk
        rw [if_pos (nI_le q (by omega)), i1]
        exact hk M g em hA
      · rw [if_neg q] at hk
        rw [if_neg (nI_ge (by omega) (by omega)), nl_1, nI_add]
        refine p_d50 (M0 := M0) ho (by omega) hst hdv F (st + 1) 9 A M (by omega) (by omega) (by omega) g em hA (fun M' g' em' hA' => ?_)
        exact ih (r + 1) zf _ M' (by omega) (by omega) (by omega) g' em' hA' hk
theorem p_d5 {F o : Nat} {M0 : sm_M} (hF : 300 < F) (ho : o ≤ 7) : ∀ (z st zf : Nat) (dv : Int64) (A : Nat → Nat → Int64) (M : sm_M), o < z + st → o < zf + st → st ≤ o → dv ≠ 0 → fz 69 76 M0 M → M.1 = M0.1 → matp M o A → okp (f_X0_determinant_5 F z (nI o) dv (nI st) M) (fun r => r.1 = bsl o zf st dv A ∧ fz 69 76 M0 r.2 ∧ r.2.1 = M0.1) := by
  intro z
  induction z with
  | zero => intro st zf dv A M a; omega
  | succ z ih =>
    intro st zf dv A M a1 az a2 hdv g em hA
    cases zf with
    | zero => omega
    | succ zf =>
      show okp (f_X0_determinant_5b F (f_X0_determinant_5 F z) _ _ _ _) _
      unfold f_X0_determinant_5b
      rw [bsl]
      by_cases q : o ≤ st
      · rw [if_pos q, if_pos (nI_le q (by omega))]
        exact okp_some ⟨rfl, g, em⟩
      · rw [if_neg q, if_neg (nI_ge (by omega) (by omega)), g_ib (by omega) (by omega), g_ib (by omega) (by omega), nI_clamp (by omega), hA st st (by omega) (by omega)]
        by_cases w : A st st = 0
        · rw [if_pos w, if_pos (show lg_cmp (A st st) 0 = 0 by rw [w]; exact lj_cmp0 0)]
          exact okp_some ⟨rfl, g, em⟩
        · rw [if_neg w, if_neg (show ¬ lg_cmp (A st st) 0 = 0 from fun y => w (lc_0 y)), nl_1, nI_add]
          refine p_d38 (M0 := M0) hF ho (by omega) hdv F (st + 1) 9 A M (by omega) (by omega) (by omega) g em hA (fun M' g' em' hA' => ?_)
          exact ih (st + 1) zf (A st st) _ M' (by omega) (by omega) (by omega) w g' em' hA'
