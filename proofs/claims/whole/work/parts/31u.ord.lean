/-! ===== useCircuit, kind 1: raising the row ===== -/
abbrev WS := (Nat → Nat) × Bool
def wst (P : Nat → Nat → Nat) (E n p x : Nat) (s : WS) : WS := if P p (x / n) < P p (x % n) then (if s.1 ((p + x / n) % E) < s.1 ((p + x % n) % E) then s else frN (s.1 ((p + x / n) % E) + 1) fun v => (fun y => if y = (p + x % n) % E then v else s.1 y, true)) else s
def wl (P : Nat → Nat → Nat) (E n p : Nat) : Nat → Nat → WS → WS
  | 0, _, s => s
  | z + 1, x, s => wl P E n p z (x + 1) (wst P E n p x s)
def rn (P : Nat → Nat → Nat) (E n : Nat) : Nat → Nat → WS → WS
  | 0, _, s => s
  | z + 1, p, s => rn P E n z (p + 1) (wl P E n p (n * n) 0 s)
theorem wst_mono {P : Nat → Nat → Nat} {E n p x : Nat} {s : WS} : ∀ y, s.1 y ≤ (wst P E n p x s).1 y := by
  intro y
  unfold wst
  rw [frN_eq]
  split
  · split
    · exact Nat.le_refl _
    · rename_i h
      show s.1 y ≤ if y = (p + x % n) % E then s.1 ((p + x / n) % E) + 1 else s.1 y
      split
      · rename_i e
        rw [e]
        omega
      · exact Nat.le_refl _
  · exact Nat.le_refl _
theorem wst_le {P : Nat → Nat → Nat} {E n p x C t : Nat} {s : WS} (h : ∀ y, s.1 y + (t + 1) ≤ C) : ∀ y, (wst P E n p x s).1 y + t ≤ C := by
  intro y
  have h1 := h y
  unfold wst
  rw [frN_eq]
  split
  · split
    · omega
    · show (if y = (p + x % n) % E then s.1 ((p + x / n) % E) + 1 else s.1 y) + t ≤ C
      have h2 := h ((p + x / n) % E)
      split <;> omega
  · omega
theorem wl_mono {P : Nat → Nat → Nat} {E n p : Nat} : ∀ (z x : Nat) (s : WS) (y : Nat), s.1 y ≤ (wl P E n p z x s).1 y
  | 0, _, _, _ => Nat.le_refl _
  | z + 1, x, s, y => Nat.le_trans (wst_mono y) (wl_mono z (x + 1) _ y)
theorem wl_le {P : Nat → Nat → Nat} {E n p C t : Nat} : ∀ (z x : Nat) (s : WS), (∀ y, s.1 y + (z + t) ≤ C) → ∀ y, (wl P E n p z x s).1 y + t ≤ C
  | 0, _, _, h, y => by have := h y; show _ ≤ C; simp only [wl]; omega
  | z + 1, x, s, h, y => wl_le z (x + 1) _ (wst_le (fun y => by have := h y; omega)) y
theorem wl_add {P : Nat → Nat → Nat} {E n p b : Nat} : ∀ (a x : Nat) (s : WS), wl P E n p (a + b) x s = wl P E n p b (x + a) (wl P E n p a x s)
  | 0, x, s => by rw [Nat.zero_add, Nat.add_zero]; rfl
  | a + 1, x, s => by
    rw [show a + 1 + b = (a + b) + 1 by omega, wl, wl, wl_add a (x + 1), show x + (a + 1) = x + 1 + a by omega]
theorem wst_fl {P : Nat → Nat → Nat} {E n p x : Nat} {w : Nat → Nat} {c : Bool} : wst P E n p x (w, c) = ((wst P E n p x (w, false)).1, c || (wst P E n p x (w, false)).2) := by
  unfold wst
  simp only [frN_eq]
  by_cases h : P p (x / n) < P p (x % n)
  · by_cases h2 : w ((p + x / n) % E) < w ((p + x % n) % E)
    · simp [h, h2]
    · simp [h, h2]
  · simp [h]
theorem wl_fl {P : Nat → Nat → Nat} {E n p : Nat} : ∀ (z x : Nat) (w : Nat → Nat) (c : Bool), wl P E n p z x (w, c) = ((wl P E n p z x (w, false)).1, c || (wl P E n p z x (w, false)).2)
  | 0, x, w, c => by simp [wl]
  | z + 1, x, w, c => by
    rw [wl, wl, wst_fl, wl_fl z, wl_fl z (x + 1) (wst P E n p x (w, false)).1 (wst P E n p x (w, false)).2]
    simp [Bool.or_assoc]
theorem rn_mono {P : Nat → Nat → Nat} {E n : Nat} : ∀ (z p : Nat) (s : WS) (y : Nat), s.1 y ≤ (rn P E n z p s).1 y
  | 0, _, _, _ => Nat.le_refl _
  | z + 1, p, s, y => Nat.le_trans (wl_mono _ _ _ y) (rn_mono z (p + 1) _ y)
theorem rn_le {P : Nat → Nat → Nat} {E n C t : Nat} : ∀ (z p : Nat) (s : WS), (∀ y, s.1 y + (z * (n * n) + t) ≤ C) → ∀ y, (rn P E n z p s).1 y + t ≤ C
  | 0, _, _, h, y => by have := h y; simp only [rn]; omega
  | z + 1, p, s, h, y => rn_le z (p + 1) _ (wl_le _ _ _ (fun y => by have := h y; rw [Nat.succ_mul] at this; omega)) y
theorem rn_add {P : Nat → Nat → Nat} {E n b : Nat} : ∀ (a p : Nat) (s : WS), rn P E n (a + b) p s = rn P E n b (p + a) (rn P E n a p s)
  | 0, x, s => by rw [Nat.zero_add, Nat.add_zero]; rfl
  | a + 1, x, s => by
    rw [show a + 1 + b = (a + b) + 1 by omega, rn, rn, rn_add a (x + 1), show x + (a + 1) = x + 1 + a by omega]
def mxw (w : Nat → Nat) : Nat → Nat
  | 0 => 0
  | i + 1 => if mxw w i < w i then w i else mxw w i
theorem mxw_lt {w : Nat → Nat} {k : Nat} (hk : 0 < k) : ∀ m, mxw w m < k ↔ ∀ i, i < m → w i < k
  | 0 => by simp [mxw, hk]
  | m + 1 => by
    have ih := mxw_lt (w := w) hk m
    rw [mxw]
    constructor
    · intro h i hi
      by_cases q : i = m
      · subst q
        split at h <;> omega
      · refine ih.mp ?_ i (by omega)
        split at h <;> omega
    · intro h
      have h1 := ih.mpr (fun i hi => h i (by omega))
      have h2 := h m (by omega)
      split <;> omega
def ufp (P : Nat → Nat → Nat) (E n k : Nat) : Nat → (Nat → Nat) → Option (Option (Nat → Nat))
  | 0, _ => none
  | z + 1, w => if mxw (rn P E n E 0 (w, false)).1 E < k then (if (rn P E n E 0 (w, false)).2 = true then ufp P E n k z (rn P E n E 0 (w, false)).1 else some (some (rn P E n E 0 (w, false)).1)) else some none
def orp (P : Nat → Nat → Nat) (E n : Nat) : Nat → (Nat → Nat) → Option (Nat → Nat)
  | 0, _ => none
  | z + 1, w => if (rn P E n E 0 (w, false)).2 = true then orp P E n z (rn P E n E 0 (w, false)).1 else some (rn P E n E 0 (w, false)).1
/-! the class's window -/
def rwp (M : sm_M) (a E : Nat) (w : Nat → Nat) : Prop := ∀ y, y < E → M.1 a y = nI (w y)
theorem xdm {n i j : Nat} (h : j < n) : (n * i + j) / n = i ∧ (n * i + j) % n = j := by
  refine ⟨?_, ?_⟩
  · rw [Nat.mul_add_div (by omega), Nat.div_eq_of_lt h, Nat.add_zero]
  · rw [Nat.mul_add_mod, Nat.mod_eq_of_lt h]
theorem p_rw27 {F E n p i c C : Nat} {P : Nat → Nat → Nat} {M0 : sm_M} {kb18 : Int32 → Int32 → Int32 → Int32 → Int32 → sm_M → Option (Int32 × sm_M)} {Q : Int32 × sm_M → Prop} (hC : C < 2 ^ 30) (hE : E ≤ 200) (hE0 : 0 < E) (hn : n ≤ 5) (hp : p < E) (hi : i < n) (h65 : M0.1 65 1 = nI E) (hc : c < 2 ^ 31) (hP : ∀ a, a < n → P p a = dg c (n - 1 - a)) : ∀ (z j : Nat) (s : WS) (M : sm_M), n < z + j → j ≤ n → fz 66 67 M0 M → rwp M 66 E s.1 → (∀ y, s.1 y + (n - j) ≤ C) → (∀ M', fz 66 67 M0 M' → rwp M' 66 E (wl P E n p (n - j) (n * i + j) s).1 → okp (kb18 (nI c) (nI n) (nI p) (bI (wl P E n p (n - j) (n * i + j) s).2) (nI (i + 1)) M') Q) → okp (f_X9_raiseWindow_27 F kb18 z (nI c) (nI n) (nI p) (bI s.2) (nI i) (nI j) M) Q := by
  intro z
  induction z with
  | zero => intro j s M a b; omega
  | succ z ih =>
    intro j s M a1 a2 g hr hB hk
    show okp (f_X9_raiseWindow_27b F kb18 (f_X9_raiseWindow_27 F kb18 z) _ _ _ _ _ _ _) _
    unfold f_X9_raiseWindow_27b f_X9_raiseWindow_83 f_X9_raiseWindow_138
    by_cases q : n ≤ j
    · have e : n - j = 0 := by omega
      rw [e] at hk
      rw [if_pos (nI_le q (by omega)), i1]
      exact hk M g hr
    · obtain ⟨d1, d2⟩ := xdm (i := i) (show j < n by omega)
      have e : n - j = (n - (j + 1)) + 1 := by omega
      have ma : (p + i) % E < E := Nat.mod_lt _ hE0
      have mb : (p + j) % E < E := Nat.mod_lt _ hE0
      have ba := hB ((p + i) % E)
      have bb := hB ((p + j) % E)
      have m65 : M.1 65 1 = nI E := by rw [fz_1 g (by omega)]; exact h65
      have pl := dg_lt c (n - 1 - i)
      have pl2 := dg_lt c (n - 1 - j)
      rw [e, wl] at hk
      have nx : ∀ M', fz 66 67 M0 M' → rwp M' 66 E (wst P E n p (n * i + j) s).1 → okp (f_X9_raiseWindow_27 F kb18 z (nI c) (nI n) (nI p) (bI (wst P E n p (n * i + j) s).2) (nI i) (nI (j + 1)) M') Q := fun M' g' hr' => ih (j + 1) _ M' (by omega) (by omega) g' hr' (wst_le (fun y => by have := hB y; omega)) hk
      rw [if_neg (nI_ge (by omega) (by omega)), m65, g_nz hE0 (by omega), g_nz hE0 (by omega), p_numAt hc (by omega) hi, Option.bind_some, p_numAt hc (by omega) (by omega), Option.bind_some, nI_add, nI_add, pk_rem (by omega) hE0 (by omega), pk_rem (by omega) hE0 (by omega), ← hP i hi, ← hP j (by omega), i1]
      unfold wst at nx
      rw [d1, d2, frN_eq] at nx
      rw [hP i hi, hP j (by omega)] at nx ⊢
      by_cases c1 : dg c (n - 1 - i) < dg c (n - 1 - j)
      · rw [if_pos c1] at nx
        rw [if_neg (nI_ge c1 (by omega)), if_neg (by decide), g_ib (by omega) (by omega), g_ib (by omega) (by omega), nI_clamp (by omega), nI_clamp (by omega), hr _ ma, hr _ mb]
        by_cases c2 : s.1 ((p + i) % E) < s.1 ((p + j) % E)
        · rw [if_pos c2] at nx
          rw [if_pos (nI_lt c2 (by omega))]
          exact nx M g hr
        · rw [if_neg c2] at nx
          rw [if_neg (nI_nlt (by omega) (by omega)), g_ib (by omega) (by omega), g_ib (by omega) (by omega), i1]
          refine nx _ (fz_then g (by omega) (by omega)) (fun y hy => ?_)
          show (sm_mi M 66 ((p + j) % E) (nI (s.1 ((p + i) % E) + 1))).1 66 y = nI (if y = (p + j) % E then s.1 ((p + i) % E) + 1 else s.1 y)
          by_cases w : y = (p + j) % E
          · rw [if_pos w, w, mi_eq]
          · rw [if_neg w, mi_ni w]
            exact hr y hy
      · rw [if_neg c1] at nx
        rw [if_pos (nI_le (by omega) (by omega)), if_pos rfl]
        exact nx M g hr
