/-! ===== useCircuit, kind 1: the reference's rounds ===== -/
theorem p_o54 {F E n p x2 C : Nat} {P : Nat → Nat → Nat} {ci : Nat} {M0 : sm_M} {kb27 : Int32 → Int32 → sm_M → Option (Int32 × sm_M)} {kb43 : Int32 → Int32 → Int32 → sm_M → Option (Int32 × sm_M)} {Q : Int32 × sm_M → Prop} (hC : C < 2 ^ 30) (hE : E ≤ 200) (hE0 : 0 < E) (hn : n ≤ 5) (hn0 : 0 < n) (hp : p < E) (h2 : M0.1 80 2 = nI n) (h5 : M0.1 80 5 = nI E) (h99 : M0.1 99 p = nI ci) (hci : ci < 200) (hP : ∀ a, a < n → M0.1 81 (5 * ci + a) = nI (P p a) ∧ P p a < 8) : ∀ (z x : Nat) (s : WS) (M : sm_M), n * n < z + x → x ≤ n * n → fz 89 90 M0 M → rwp M 89 E s.1 → (∀ y, s.1 y + (n * n - x) ≤ C) → (∀ M', fz 89 90 M0 M' → rwp M' 89 E (wl P E n p (n * n - x) x s).1 → okp (kb43 (bI (wl P E n p (n * n - x) x s).2) (nI x2) (nI (p + 1)) M') Q) → okp (f_X12_order_54 F kb27 kb43 z (bI s.2) (nI x2) (nI p) (nI x) M) Q := by
  have hnn : n * n ≤ 5 * 5 := Nat.mul_le_mul hn hn
  intro z
  induction z with
  | zero => intro x s M a b; omega
  | succ z ih =>
    intro x s M a1 a2 g hr hB hk
    show okp (f_X12_order_54b F kb27 kb43 (f_X12_order_54 F kb27 kb43 z) _ _ _ _ _) _
    unfold f_X12_order_54b f_X12_order_148 f_X12_order_190
    have m2 : M.1 80 2 = nI n := by rw [fz_1 g (by omega)]; exact h2
    have m5 : M.1 80 5 = nI E := by rw [fz_1 g (by omega)]; exact h5
    have m99 : M.1 99 p = nI ci := by rw [fz_1 g (by omega)]; exact h99
    rw [m2, m5, pk_mul]
    by_cases q : n * n ≤ x
    · have e : n * n - x = 0 := by omega
      rw [e] at hk
      rw [if_pos (nI_le q (by omega)), i1]
      exact hk M g hr
    · have xa : x / n < n := Nat.div_lt_of_lt_mul (by omega)
      have xb : x % n < n := Nat.mod_lt _ hn0
      have e : n * n - x = (n * n - (x + 1)) + 1 := by omega
      have ma : (p + x / n) % E < E := Nat.mod_lt _ hE0
      have mb : (p + x % n) % E < E := Nat.mod_lt _ hE0
      have ba := hB ((p + x / n) % E)
      have bb := hB ((p + x % n) % E)
      obtain ⟨pa, pa8⟩ := hP _ xa
      obtain ⟨pb, pb8⟩ := hP _ xb
      have na : M.1 81 (5 * ci + x / n) = nI (P p (x / n)) := by rw [fz_1 g (by omega)]; exact pa
      have nb : M.1 81 (5 * ci + x % n) = nI (P p (x % n)) := by rw [fz_1 g (by omega)]; exact pb
      rw [e, wl] at hk
      have nx : ∀ M', fz 89 90 M0 M' → rwp M' 89 E (wst P E n p x s).1 → okp (f_X12_order_54 F kb27 kb43 z (bI (wst P E n p x s).2) (nI x2) (nI p) (nI (x + 1)) M') Q := fun M' g' hr' => ih (x + 1) _ M' (by omega) (by omega) g' hr' (wst_le (fun y => by have := hB y; omega)) hk
      rw [if_neg (nI_ge (by omega) (by omega)), g_nz hn0 (by omega), g_nz hn0 (by omega), g_nz hE0 (by omega), g_nz hE0 (by omega), g_ib (by omega) (by omega), nI_clamp (by omega), m99, pk_rem (by omega) hn0 (by omega), pk_div (by omega) hn0 (by omega), nl_5, pk_mul, nI_add, nI_add, nI_add, nI_add, pk_rem (by omega) hE0 (by omega), pk_rem (by omega) hE0 (by omega), g_ib (by omega) (by omega), g_ib (by omega) (by omega), g_ib (by omega) (by omega), nI_clamp (by omega), nI_clamp (by omega), na, nb, i1]
      unfold wst at nx
      rw [frN_eq] at nx
      by_cases c1 : P p (x / n) < P p (x % n)
      · rw [if_pos c1] at nx
        rw [if_neg (nI_ge c1 (by omega)), if_neg (by decide), g_ib (by omega) (by omega), g_ib (by omega) (by omega), nI_clamp (by omega), nI_clamp (by omega), hr _ ma, hr _ mb]
        by_cases c2 : s.1 ((p + x / n) % E) < s.1 ((p + x % n) % E)
        · rw [if_pos c2] at nx
          rw [if_pos (nI_lt c2 (by omega))]
          exact nx M g hr
        · rw [if_neg c2] at nx
          rw [if_neg (nI_nlt (by omega) (by omega)), g_ib (by omega) (by omega), g_ib (by omega) (by omega), i1]
          refine nx _ (fz_then g (by omega) (by omega)) (fun y hy => ?_)
          show (sm_mi M 89 ((p + x % n) % E) (nI (s.1 ((p + x / n) % E) + 1))).1 89 y = nI (if y = (p + x % n) % E then s.1 ((p + x / n) % E) + 1 else s.1 y)
          by_cases w : y = (p + x % n) % E
          · rw [if_pos w, w, mi_eq]
          · rw [if_neg w, mi_ni w]
            exact hr y hy
      · rw [if_neg c1] at nx
        rw [if_pos (nI_le (by omega) (by omega)), if_pos rfl]
        exact nx M g hr
def oci (M0 : sm_M) (E n : Nat) (P : Nat → Nat → Nat) (ci : Nat → Nat) : Prop := ∀ p, p < E → M0.1 99 p = nI (ci p) ∧ ci p < 200 ∧ ∀ a, a < n → M0.1 81 (5 * ci p + a) = nI (P p a) ∧ P p a < 8
theorem p_o43 {F E n x2 C : Nat} {P : Nat → Nat → Nat} {ci : Nat → Nat} {M0 : sm_M} {kb27 : Int32 → Int32 → sm_M → Option (Int32 × sm_M)} {Q : Int32 × sm_M → Prop} (hF : 240 < F) (hC : C < 2 ^ 30) (hE : E ≤ 200) (hE0 : 0 < E) (hn : n ≤ 5) (hn0 : 0 < n) (h2 : M0.1 80 2 = nI n) (h5 : M0.1 80 5 = nI E) (hci : oci M0 E n P ci) : ∀ (z p : Nat) (s : WS) (M : sm_M), E < z + p → p ≤ E → fz 89 90 M0 M → rwp M 89 E s.1 → (∀ y, s.1 y + (E - p) * (n * n) ≤ C) → (∀ M', fz 89 90 M0 M' → rwp M' 89 E (rn P E n (E - p) p s).1 → okp (kb27 (bI (rn P E n (E - p) p s).2) (nI (x2 + 1)) M') Q) → okp (f_X12_order_43 F kb27 z (bI s.2) (nI x2) (nI p) M) Q := by
  have hnn : n * n ≤ 5 * 5 := Nat.mul_le_mul hn hn
  intro z
  induction z with
  | zero => intro p s M a b; omega
  | succ z ih =>
    intro p s M a1 a2 g hr hB hk
    show okp (f_X12_order_43b F kb27 (f_X12_order_43 F kb27 z) _ _ _ _) _
    unfold f_X12_order_43b
    have m5 : M.1 80 5 = nI E := by rw [fz_1 g (by omega)]; exact h5
    rw [m5]
    by_cases q : E ≤ p
    · have e : E - p = 0 := by omega
      rw [e] at hk
      rw [if_pos (nI_le q (by omega)), i1]
      exact hk M g hr
    · obtain ⟨c1, c2, c3⟩ := hci p (by omega)
      have e : E - p = (E - (p + 1)) + 1 := by omega
      rw [e, rn] at hk
      have hB' : ∀ y, s.1 y + (n * n + (E - (p + 1)) * (n * n)) ≤ C := fun y => by
        have := hB y
        rw [e, Nat.succ_mul] at this
        omega
      rw [if_neg (nI_ge (by omega) (by omega)), nl_0]
      refine p_o54 (P := P) (M0 := M0) hC hE hE0 hn hn0 (show p < E by omega) h2 h5 c1 c2 c3 F 0 s M (by omega) (by omega) g hr (fun y => by have := hB' y; omega) (fun M' g' hr' => ?_)
      rw [Nat.sub_zero] at hr' ⊢
      exact ih (p + 1) _ M' (by omega) (by omega) g' hr' (wl_le _ _ _ hB') hk
theorem p_o27 {F E n C : Nat} {P : Nat → Nat → Nat} {ci : Nat → Nat} {M0 : sm_M} (hF : 240 < F) (hC : C < 2 ^ 30) (hE : E ≤ 200) (hE0 : 0 < E) (hn : n ≤ 5) (hn0 : 0 < n) (h2 : M0.1 80 2 = nI n) (h5 : M0.1 80 5 = nI E) (hci : oci M0 E n P ci) : ∀ (zf x2 : Nat) (w : Nat → Nat) (M : sm_M), E + 2 < zf + x2 → x2 ≤ E + 1 → fz 89 90 M0 M → rwp M 89 E w → (∀ y, w y + (E + 1 - x2) * (E * (n * n)) ≤ C) → okp (f_X12_order_27 F zf (bI true) (nI x2) M) (fun r => (r.1 = nI 0 ∨ r.1 = nI 1) ∧ fz 89 90 M0 r.2 ∧ ∃ w', rwp r.2 89 E w' ∧ (∀ y, w y ≤ w' y ∧ w' y ≤ C) ∧ (x2 ≤ E → ∀ y, (rn P E n E 0 (w, false)).1 y ≤ w' y) ∧ ∀ z w'', orp P E n z w = some w'' → x2 + z ≤ E + 1 → r.1 = nI 1 ∧ w' = w'') := by
  intro zf
  induction zf with
  | zero => intro x2 w M a b; omega
  | succ zf ih =>
    intro x2 w M a b g hr hB
    show okp (f_X12_order_27b F (f_X12_order_27 F zf) _ _ _) _
    unfold f_X12_order_27b f_X12_order_208 f_X12_order_217
    have m5 : M.1 80 5 = nI E := by rw [fz_1 g (by omega)]; exact h5
    rw [m5, if_neg (show ¬ bI true = (0 : Int32) by decide), if_neg (show ¬ bI true = (0 : Int32) by decide)]
    by_cases q : E < x2
    · rw [if_pos (nI_lt q (by omega)), nl_0, g_b0]
      refine okp_some ⟨Or.inl rfl, g, w, hr, fun y => ⟨Nat.le_refl _, by have := hB y; omega⟩, fun t => by omega, fun z w'' ho hz => ?_⟩
      have : z = 0 := by omega
      subst this
      cases ho
    · have e : E + 1 - x2 = (E + 1 - (x2 + 1)) + 1 := by omega
      have hB' : ∀ y, w y + (E * (n * n) + (E + 1 - (x2 + 1)) * (E * (n * n))) ≤ C := fun y => by
        have := hB y
        rw [e, Nat.succ_mul] at this
        omega
      have hB2 := rn_le (P := P) (E := E) (n := n) E 0 (w, false) hB'
      have hmo := rn_mono (P := P) (E := E) (n := n) E 0 (w, false)
      rw [if_neg (nI_nlt (by omega) (by omega))]
      refine p_o43 (P := P) (M0 := M0) hF hC hE hE0 hn hn0 h2 h5 hci F 0 (w, false) M (by omega) (by omega) g hr (fun y => by rw [Nat.sub_zero]; have := hB' y; show w y + _ ≤ _; omega) (fun M' g' hr' => ?_)
      rw [Nat.sub_zero] at hr' ⊢
      by_cases d : (rn P E n E 0 (w, false)).2 = true
      · rw [d]
        refine okp_mono (ih (x2 + 1) _ M' (by omega) (by omega) g' hr' hB2) ?_
        rintro r ⟨r1, r2, w', r3, r4, -, r5⟩
        refine ⟨r1, r2, w', r3, fun y => ⟨Nat.le_trans (hmo y) (r4 y).1, (r4 y).2⟩, fun _ y => (r4 y).1, fun z w'' ho hz => ?_⟩
        cases z with
        | zero => cases ho
        | succ z =>
          rw [orp, if_pos d] at ho
          exact r5 z w'' ho (by omega)
      · rw [Bool.not_eq_true] at d
        rw [d]
        cases zf with
        | zero => omega
        | succ zf =>
          show okp (f_X12_order_27b F (f_X12_order_27 F zf) _ _ _) _
          unfold f_X12_order_27b f_X12_order_208 f_X12_order_217
          rw [if_pos (show bI false = (0 : Int32) by decide), if_pos (show bI false = (0 : Int32) by decide), ite_self, nl_1, g_b1]
          refine okp_some ⟨Or.inr rfl, g', _, hr', fun y => ⟨hmo y, by have := hB2 y; omega⟩, fun _ y => Nat.le_refl _, fun z w'' ho hz => ?_⟩
          cases z with
          | zero => cases ho
          | succ z =>
            rw [orp, if_neg (by rw [d]; decide)] at ho
            cases ho
            exact ⟨rfl, rfl⟩
theorem p_order {F E n : Nat} {P : Nat → Nat → Nat} {ci : Nat → Nat} {M : sm_M} (hF : 500 < F) (hE : E ≤ 200) (hE0 : 0 < E) (hn : n ≤ 5) (hn0 : 0 < n) (h2 : M.1 80 2 = nI n) (h5 : M.1 80 5 = nI E) (hci : oci M E n P ci) : okp (f_X12_order F M) (fun r => (r.1 = nI 0 ∨ r.1 = nI 1) ∧ fz 89 90 M r.2 ∧ ∃ w', rwp r.2 89 E w' ∧ (∀ y, w' y ≤ 2 ^ 25) ∧ (∀ y, (rn P E n E 0 (fun _ => 0, false)).1 y ≤ w' y) ∧ ∀ z w'', orp P E n z (fun _ => 0) = some w'' → z ≤ E + 1 → r.1 = nI 1 ∧ w' = w'') := by
  have hnn : n * n ≤ 5 * 5 := Nat.mul_le_mul hn hn
  have key : ∀ (z i : Nat) (M1 : sm_M), E < z + i → i ≤ E → fz 89 90 M M1 → (∀ y, y < i → M1.1 89 y = nI 0) → okp (f_X12_order_2 F z (nI i) M1) (fun r => (r.1 = nI 0 ∨ r.1 = nI 1) ∧ fz 89 90 M r.2 ∧ ∃ w', rwp r.2 89 E w' ∧ (∀ y, w' y ≤ 2 ^ 25) ∧ (∀ y, (rn P E n E 0 (fun _ => 0, false)).1 y ≤ w' y) ∧ ∀ z w'', orp P E n z (fun _ => 0) = some w'' → z ≤ E + 1 → r.1 = nI 1 ∧ w' = w'') := by
    intro z
    induction z with
    | zero => intro i M1 a b; omega
    | succ z ih =>
      intro i M1 a b g hr
      show okp (f_X12_order_2b F (f_X12_order_2 F z) _ _) _
      unfold f_X12_order_2b
      rw [fz_1 g (show 80 < 89 ∨ 90 ≤ 80 by omega), h5]
      by_cases q : E ≤ i
      · rw [if_pos (nI_le q (by omega)), nl_0]
        have hb : (E + 1 - 0) * (E * (n * n)) ≤ 201 * (200 * (5 * 5)) := Nat.mul_le_mul (by omega) (Nat.mul_le_mul hE hnn)
        refine okp_mono (p_o27 (P := P) (M0 := M) (C := 2 ^ 25) (by omega) (by decide) hE hE0 hn hn0 h2 h5 hci F 0 (fun _ => 0) M1 (by omega) (by omega) g (fun y hy => hr y (by omega)) (fun y => ?_)) ?_
        · rw [Nat.zero_add]
          exact Nat.le_trans hb (by decide)
        · rintro r ⟨r1, r2, w', r3, r4, r5, r6⟩
          exact ⟨r1, r2, w', r3, fun y => (r4 y).2, r5 (by omega), fun z w'' ho hz => r6 z w'' ho (by omega)⟩
      · rw [if_neg (nI_ge (by omega) (by omega)), g_ib (by omega) (by omega), nI_clamp (by omega), i1]
        refine ih (i + 1) _ (by omega) (by omega) (fz_then g (by omega) (by omega)) (fun y hy => ?_)
        by_cases c : y = i
        · subst c
          rw [mi_eq]
          rfl
        · rw [mi_ni c]
          exact hr y (by omega)
  exact key F 0 M (by omega) (by omega) fz_refl (fun y hy => by omega)
