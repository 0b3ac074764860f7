/-! ===== useCircuit, kind 1: the class's rounds ===== -/
theorem bI_if {α : Type} {a b : Bool} {f : Int32 → α} : (if bI b = (0 : Int32) then f (bI a) else f (1 : Int32)) = f (bI (a || b)) := by
  cases b with
  | false => exact (if_pos (show bI false = (0 : Int32) by decide)).trans (congrArg (fun y => f (bI y)) (Bool.or_false a).symm)
  | true => exact (if_neg (show ¬ bI true = (0 : Int32) by decide)).trans ((congrArg f (show (1 : Int32) = bI true by decide)).trans (congrArg (fun y => f (bI y)) (Bool.or_true a).symm))
theorem p_rw18 {F E n p c C : Nat} {P : Nat → Nat → Nat} {M0 : sm_M} (hF : 10 < F) (hC : C < 2 ^ 30) (hE : E ≤ 200) (hE0 : 0 < E) (hn : n ≤ 5) (hp : p < E) (h65 : M0.1 65 1 = nI E) (hc : c < 2 ^ 31) (hP : ∀ a, a < n → P p a = dg c (n - 1 - a)) : ∀ (z i : Nat) (s : WS) (M : sm_M), n < z + i → i ≤ n → fz 66 67 M0 M → rwp M 66 E s.1 → (∀ y, s.1 y + (n * n - n * i) ≤ C) → okp (f_X9_raiseWindow_18 F z (nI c) (nI n) (nI p) (bI s.2) (nI i) M) (fun r => r.1 = bI (wl P E n p (n * n - n * i) (n * i) s).2 ∧ rwp r.2 66 E (wl P E n p (n * n - n * i) (n * i) s).1 ∧ fz 66 67 M0 r.2) := by
  intro z
  induction z with
  | zero => intro i s M a b; omega
  | succ z ih =>
    intro i s M a1 a2 g hr hB
    show okp (f_X9_raiseWindow_18b F (f_X9_raiseWindow_18 F z) _ _ _ _ _ _) _
    unfold f_X9_raiseWindow_18b
    by_cases q : n ≤ i
    · have e : i = n := by omega
      subst e
      rw [if_pos (nI_le q (by omega)), g_bI, Nat.sub_self]
      exact okp_some ⟨rfl, hr, g⟩
    · have e1 : n * (i + 1) = n * i + n := Nat.mul_succ n i
      have e2 : n * (i + 1) ≤ n * n := Nat.mul_le_mul_left n (by omega)
      have e3 : n * n - n * i = n + (n * n - n * (i + 1)) := by omega
      rw [if_neg (nI_ge (by omega) (by omega)), nl_0]
      rw [e3] at hB ⊢
      rw [wl_add]
      refine p_rw27 hC hE hE0 hn hp (by omega) h65 hc hP F 0 s M (by omega) (by omega) g hr (fun y => by have := hB y; omega) (fun M' g' hr' => ?_)
      rw [Nat.sub_zero, Nat.add_zero] at hr' ⊢
      have := ih (i + 1) _ M' (by omega) (by omega) g' hr' (wl_le _ _ _ hB)
      exact this
theorem p_rw {F E n p c C : Nat} {P : Nat → Nat → Nat} {M : sm_M} {w : Nat → Nat} (hF : 10 < F) (hC : C < 2 ^ 30) (hE : E ≤ 200) (hE0 : 0 < E) (hn : n ≤ 5) (hp : p < E) (h65 : M.1 65 1 = nI E) (hc : c < 2 ^ 31) (hP : ∀ a, a < n → P p a = dg c (n - 1 - a)) (hr : rwp M 66 E w) (hB : ∀ y, w y + n * n ≤ C) : okp (f_X9_raiseWindow F (nI c) (nI n) (nI p) M) (fun r => r.1 = bI (wl P E n p (n * n) 0 (w, false)).2 ∧ rwp r.2 66 E (wl P E n p (n * n) 0 (w, false)).1 ∧ fz 66 67 M r.2) := by
  unfold f_X9_raiseWindow
  rw [h65, if_pos (show (0 : Int32) < nI E from nI_lt (a := 0) hE0 (by omega))]
  have := p_rw18 (M0 := M) hF hC hE hE0 hn hp h65 hc hP F 0 (w, false) M (by omega) (by omega) fz_refl hr (fun y => by rw [Nat.mul_zero, Nat.sub_zero]; exact hB y)
  rw [Nat.mul_zero, Nat.sub_zero] at this
  exact this
theorem p_hi {F E C : Nat} {w : Nat → Nat} {M : sm_M} (hF : 240 < F) (hC : C < 2 ^ 30) (hE : E ≤ 200) (h65 : M.1 65 1 = nI E) (hr : rwp M 66 E w) (hB : ∀ y, w y ≤ C) : f_X9_highestSymbol F M = some (nI (mxw w E)) := by
  have mb : ∀ m, mxw w m ≤ C := by
    intro m
    induction m with
    | zero => exact Nat.zero_le _
    | succ m ih =>
      rw [mxw]
      have := hB m
      split <;> omega
  have key : ∀ (z i : Nat), E < z + i → i ≤ E → f_X9_highestSymbol_4 F z (nI (mxw w i)) (nI i) M = some (nI (mxw w E)) := by
    intro z
    induction z with
    | zero => intro i a b; omega
    | succ z ih =>
      intro i a b
      show f_X9_highestSymbol_4b F (f_X9_highestSymbol_4 F z) _ _ _ = _
      unfold f_X9_highestSymbol_4b
      rw [h65]
      by_cases q : E ≤ i
      · have e : i = E := by omega
        subst e
        rw [if_pos (nI_le q (by omega))]
      · have b1 := hB i
        have b2 := mb i
        rw [if_neg (nI_ge (by omega) (by omega)), g_ib (by omega) (by omega), nI_clamp (by omega), hr i (by omega), i1]
        have := ih (i + 1) (by omega) (by omega)
        rw [mxw] at this
        by_cases c : mxw w i < w i
        · rw [if_pos c] at this
          rw [if_pos (nI_lt c (by omega))]
          exact this
        · rw [if_neg c] at this
          rw [if_neg (nI_nlt (by omega) (by omega))]
          exact this
  exact key F 0 (by omega) (by omega)
theorem p_rd49 {F E n C x3 x5 k : Nat} {P : Nat → Nat → Nat} {el ci : Nat → Nat} {M0 : sm_M} {kb32 : Int32 → Int32 → Int32 → sm_M → Option (Int32 × sm_M)} {Q : Int32 × sm_M → Prop} (hF : 240 < F) (hC : C < 2 ^ 30) (hE : E ≤ 200) (hE0 : 0 < E) (hn : n ≤ 5) (hk8 : k ≤ 8) (h65 : M0.1 65 1 = nI E) (h12 : M0.1 1 2 = nI n) (h13 : M0.1 1 3 = nI k) (h17 : ∀ p, p < E → M0.1 17 p = nI (ci p) ∧ ci p < 200 ∧ M0.1 3 (ci p) = nI (el p) ∧ el p < 2 ^ 31 ∧ ∀ a, a < n → P p a = dg (el p) (n - 1 - a)) : ∀ (z p : Nat) (s : WS) (M : sm_M), E < z + p → p ≤ E → fz 66 67 M0 M → rwp M 66 E s.1 → (∀ y, s.1 y + (E - p) * (n * n) ≤ C) → (∀ M', fz 66 67 M0 M' → rwp M' 66 E (rn P E n (E - p) p s).1 → okp (if nI (mxw (rn P E n (E - p) p s).1 E) < nI k then kb32 (nI x3) (bI (rn P E n (E - p) p s).2) (nI (x5 + 1)) M' else some ((0 : Int32), M')) Q) → okp (f_X9_unfoldPatterns_49 F kb32 z (nI x3) (bI s.2) (nI x5) (nI p) M) Q := by
  intro z
  induction z with
  | zero => intro p s M a b; omega
  | succ z ih =>
    intro p s M a1 a2 g hr hB hk
    show okp (f_X9_unfoldPatterns_49b F kb32 (f_X9_unfoldPatterns_49 F kb32 z) _ _ _ _ _) _
    unfold f_X9_unfoldPatterns_49b
    have m65 : M.1 65 1 = nI E := by rw [fz_1 g (by omega)]; exact h65
    rw [m65]
    by_cases q : E ≤ p
    · have e : E - p = 0 := by omega
      rw [e] at hk
      rw [if_pos (nI_le q (by omega)), p_hi hF hC hE m65 hr (fun y => by have := hB y; omega), Option.bind_some, fz_1 g (by omega), h13, i1]
      exact hk M g hr
    · obtain ⟨c1, c2, c3, c4, c5⟩ := h17 p (by omega)
      have e : E - p = (E - (p + 1)) + 1 := by omega
      rw [e, rn] at hk
      have hB' : ∀ y, s.1 y + (n * n + (E - (p + 1)) * (n * n)) ≤ C := fun y => by
        have := hB y
        rw [e, Nat.succ_mul] at this
        omega
      rw [if_neg (nI_ge (by omega) (by omega)), g_ib (by omega) (by omega), nI_clamp (by omega), fz_1 g (show 17 < 66 ∨ 67 ≤ 17 by omega), fz_1 g (show 3 < 66 ∨ 67 ≤ 3 by omega), fz_1 g (show 1 < 66 ∨ 67 ≤ 1 by omega), c1, g_ib (by omega) (by omega), nI_clamp (by omega), c3, h12]
      refine okp_bind (p_rw (C := C) (by omega) hC hE hE0 hn (show p < E by omega) m65 c4 c5 hr (fun y => by have := hB' y; omega)) ?_
      rintro ⟨y, M1⟩ ⟨r1, r2, g1⟩
      simp only at r1 r2 g1
      subst r1
      show okp (if bI (wl P E n p (n * n) 0 (s.1, false)).2 = (0 : Int32) then f_X9_unfoldPatterns_49 F kb32 z (nI x3) (bI s.2) (nI x5) (nI p + 1) M1 else f_X9_unfoldPatterns_49 F kb32 z (nI x3) (1 : Int32) (nI x5) (nI p + 1) M1) Q
      rw [show (if bI (wl P E n p (n * n) 0 (s.1, false)).2 = (0 : Int32) then f_X9_unfoldPatterns_49 F kb32 z (nI x3) (bI s.2) (nI x5) (nI p + 1) M1 else f_X9_unfoldPatterns_49 F kb32 z (nI x3) (1 : Int32) (nI x5) (nI p + 1) M1) = f_X9_unfoldPatterns_49 F kb32 z (nI x3) (bI (s.2 || (wl P E n p (n * n) 0 (s.1, false)).2)) (nI x5) (nI p + 1) M1 from bI_if (f := fun y => f_X9_unfoldPatterns_49 F kb32 z (nI x3) y (nI x5) (nI p + 1) M1)]
      have ef := wl_fl (P := P) (E := E) (n := n) (p := p) (n * n) 0 s.1 s.2
      have hB2 := wl_le (P := P) (E := E) (n := n) (p := p) (n * n) 0 s hB'
      have es : wl P E n p (n * n) 0 s = wl P E n p (n * n) 0 (s.1, s.2) := rfl
      rw [es, ef] at hk hB2
      rw [i1]
      exact ih (p + 1) ((wl P E n p (n * n) 0 (s.1, false)).1, s.2 || (wl P E n p (n * n) 0 (s.1, false)).2) M1 (by omega) (by omega) (fz_tr g g1 (by omega) (by omega) (by omega) (by omega)) r2 hB2 hk
theorem p_rd32 {F E n C x3 k : Nat} {P : Nat → Nat → Nat} {el ci : Nat → Nat} {M0 : sm_M} (hF : 240 < F) (hC : C < 2 ^ 30) (hE : E ≤ 200) (hE0 : 0 < E) (hn : n ≤ 5) (hk8 : k ≤ 8) (h65 : M0.1 65 1 = nI E) (h12 : M0.1 1 2 = nI n) (h13 : M0.1 1 3 = nI k) (hx3 : x3 < 2 ^ 30) (h17 : ∀ p, p < E → M0.1 17 p = nI (ci p) ∧ ci p < 200 ∧ M0.1 3 (ci p) = nI (el p) ∧ el p < 2 ^ 31 ∧ ∀ a, a < n → P p a = dg (el p) (n - 1 - a)) : ∀ (z zf x5 : Nat) (w : Nat → Nat) (M : sm_M) (r : Option (Nat → Nat)), z < zf → x5 + z ≤ x3 → fz 66 67 M0 M → rwp M 66 E w → (∀ y, w y + z * (E * (n * n)) ≤ C) → ufp P E n k z w = some r → okp (f_X9_unfoldPatterns_32 F zf (nI x3) (bI true) (nI x5) M) (fun q => fz 66 67 M0 q.2 ∧ match r with | some w' => q.1 = nI 1 ∧ rwp q.2 66 E w' | none => q.1 = nI 0) := by
  intro z
  induction z with
  | zero => intro zf x5 w M r a b g hr hB hu; cases hu
  | succ z ih =>
    intro zf x5 w M r a b g hr hB hu
    cases zf with
    | zero => omega
    | succ zf =>
      have hB' : ∀ y, w y + (E * (n * n) + z * (E * (n * n))) ≤ C := fun y => by
        have := hB y
        rw [Nat.succ_mul] at this
        omega
      show okp (f_X9_unfoldPatterns_32b F (f_X9_unfoldPatterns_32 F zf) _ _ _ _) _
      unfold f_X9_unfoldPatterns_32b
      rw [if_neg (nI_ge (by omega) (by omega)), if_neg (show ¬ bI true = (0 : Int32) by decide)]
      refine p_rd49 (P := P) (el := el) (ci := ci) hF hC hE hE0 hn hk8 h65 h12 h13 h17 F 0 (w, false) M (by omega) (by omega) g hr (fun y => by rw [Nat.sub_zero]; have := hB' y; show w y + _ ≤ _; omega) (fun M' g' hr' => ?_)
      rw [Nat.sub_zero] at hr' ⊢
      rw [ufp] at hu
      have hB2 := rn_le (P := P) (E := E) (n := n) E 0 (w, false) hB'
      have mb : ∀ m, mxw (rn P E n E 0 (w, false)).1 m ≤ C := by
        intro m
        induction m with
        | zero => exact Nat.zero_le _
        | succ m ih =>
          rw [mxw]
          have := hB2 m
          split <;> omega
      have mbE := mb E
      by_cases c : mxw (rn P E n E 0 (w, false)).1 E < k
      · rw [if_pos c] at hu
        rw [if_pos (nI_lt c (by omega))]
        by_cases d : (rn P E n E 0 (w, false)).2 = true
        · rw [if_pos d] at hu
          rw [d]
          exact ih zf (x5 + 1) _ M' r (by omega) (by omega) g' hr' hB2 hu
        · rw [if_neg d] at hu
          rw [Bool.not_eq_true] at d
          rw [d]
          cases hu
          cases zf with
          | zero => omega
          | succ zf =>
            show okp (f_X9_unfoldPatterns_32b F (f_X9_unfoldPatterns_32 F zf) _ _ _ _) _
            unfold f_X9_unfoldPatterns_32b f_X9_unfoldPatterns_121 f_X9_unfoldPatterns_131
            rw [if_pos (show bI false = (0 : Int32) by decide), if_pos (show bI false = (0 : Int32) by decide), ite_self, nl_1, g_b1]
            exact okp_some ⟨g', rfl, hr'⟩
      · rw [if_neg c] at hu
        cases hu
        rw [if_neg (nI_nlt (by omega) (by omega))]
        exact okp_some ⟨g', rfl⟩
