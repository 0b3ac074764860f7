/-! ===== base of the pure part: numbers, guards, memory, frames ===== -/
theorem nl_0 : (0 : Int32) = nI 0 := rfl
theorem nl_1 : (1 : Int32) = nI 1 := rfl
theorem nl_2 : (2 : Int32) = nI 2 := rfl
theorem nl_3 : (3 : Int32) = nI 3 := rfl
theorem nl_4 : (4 : Int32) = nI 4 := rfl
theorem nl_5 : (5 : Int32) = nI 5 := rfl
theorem nl_7 : (7 : Int32) = nI 7 := rfl
theorem nl_8 : (8 : Int32) = nI 8 := rfl
theorem nl_12 : (12 : Int32) = nI 12 := rfl
theorem nl_48 : (48 : Int32) = nI 48 := rfl
theorem nl_49 : (49 : Int32) = nI 49 := rfl
theorem nl_50 : (50 : Int32) = nI 50 := rfl
theorem nl_200 : (200 : Int32) = nI 200 := rfl
theorem nl_201 : (201 : Int32) = nI 201 := rfl
theorem nl_240 : (240 : Int32) = nI 240 := rfl
theorem nl_30000 : (30000 : Int32) = nI 30000 := rfl
theorem nI_fold (n : Nat) : Int32.ofNat n = nI n := rfl
def mN : Int32 := -1
theorem nl_m1 : (-1 : Int32) = mN := rfl
theorem nl_m1b : -(nI 1) = mN := by decide
theorem mN_toInt : mN.toInt = -1 := by decide
theorem mN_eq {a : Nat} (h : a < 2 ^ 31) : (nI a = mN) ↔ False := by
  rw [fa_eq, nI_toInt h, mN_toInt]
  exact ⟨fun e => by omega, False.elim⟩
theorem mN_eq2 {a : Nat} (h : a < 2 ^ 31) : (mN = nI a) ↔ False := by
  rw [fa_eq, nI_toInt h, mN_toInt]
  exact ⟨fun e => by omega, False.elim⟩
theorem mN_self : (mN = mN) ↔ True := by simp
theorem mN_add (a : Nat) : nI (a + 1) + mN = nI a := pk_m1 a
theorem mN_lt {a : Nat} (h : a < 2 ^ 31) : mN < nI a := by
  rw [fa_lt, nI_toInt h, mN_toInt]
  omega
theorem mN_cases {α : Sort _} {a b : α} : (if mN = mN then a else b) = a := if_pos rfl
theorem g_t {α : Type} {b : Bool} {k : Option α} (h : b = true) : sm_g b k = k := by
  subst h
  rfl
theorem ib_t {i N : Nat} (h : i < N) (hN : N < 2 ^ 31) : sm_ib (nI i) N = true := by
  simp only [sm_ib, Bool.and_eq_true, Bool.not_eq_true', decide_eq_false_iff_not, decide_eq_true_eq]
  exact ⟨nI_pos (by omega), by rw [nI_clamp (by omega)]; exact h⟩
theorem g_ib {α : Type} {i N : Nat} {k : Option α} (h : i < N) (hN : N < 2 ^ 31) : sm_g (sm_ib (nI i) N) k = k := g_t (ib_t h hN)
theorem g_nz {α : Type} {i : Nat} {k : Option α} (h : 0 < i) (hN : i < 2 ^ 31) : sm_g (sm_nz (nI i)) k = k := by
  apply g_t
  simp only [sm_nz, Bool.not_eq_true', decide_eq_false_iff_not]
  exact nI_ne0 h hN
theorem g_b0 {α : Type} {k : Option α} : sm_g (sm_nar .boolean (nI 0)) k = k := g_t (by decide)
theorem g_b1 {α : Type} {k : Option α} : sm_g (sm_nar .boolean (nI 1)) k = k := g_t (by decide)
theorem vb_0 : vp_nar .boolean (nI 0) = nI 0 := by decide
theorem vb_1 : vp_nar .boolean (nI 1) = nI 1 := by decide
theorem b_if {α : Sort _} (c : Prop) [Decidable c] (x y : α) : (if (if c then nI 1 else nI 0) = nI 0 then x else y) = if c then y else x := by
  by_cases h : c
  · rw [if_pos h, if_pos h, if_neg (by decide)]
  · rw [if_neg h, if_neg h, if_pos rfl]
/-! ===== outcomes ===== -/
def okp {α : Type} (o : Option α) (Q : α → Prop) : Prop := ∃ r, o = some r ∧ Q r
theorem okp_some {α : Type} {r : α} {Q : α → Prop} (h : Q r) : okp (some r) Q := ⟨r, rfl, h⟩
theorem okp_bind {α β : Type} {o : Option α} {f : α → Option β} {P : α → Prop} {Q : β → Prop} (h : okp o P) (k : ∀ r, P r → okp (f r) Q) : okp (o.bind f) Q := by
  obtain ⟨r, rfl, hp⟩ := h
  exact k r hp
theorem okp_eq {α β : Type} {o : Option α} {f : α → Option β} {r : α} {Q : β → Prop} (h : o = some r) (k : okp (f r) Q) : okp (o.bind f) Q := by
  rw [h]
  exact k
theorem okp_mono {α : Type} {o : Option α} {P Q : α → Prop} (h : okp o P) (k : ∀ r, P r → Q r) : okp o Q := by
  obtain ⟨r, e, hp⟩ := h
  exact ⟨r, e, k r hp⟩
theorem okp_t {α : Type} {c : Prop} [Decidable c] {a b : Option α} {Q : α → Prop} (hc : c) (h : okp a Q) : okp (if c then a else b) Q := by rwa [if_pos hc]
theorem okp_f {α : Type} {c : Prop} [Decidable c] {a b : Option α} {Q : α → Prop} (hc : ¬ c) (h : okp b Q) : okp (if c then a else b) Q := by rwa [if_neg hc]
theorem okp_if {α : Type} {c : Prop} [Decidable c] {a b : Option α} {Q : α → Prop} (ht : c → okp a Q) (hf : ¬ c → okp b Q) : okp (if c then a else b) Q := by
  by_cases h : c
  · exact okp_t h (ht h)
  · exact okp_f h (hf h)
/-! ===== memory ===== -/
theorem mi_1 (M : sm_M) (a j : Nat) (v : Int32) (b i : Nat) : (sm_mi M a j v).1 b i = if b = a ∧ i = j then v else M.1 b i := rfl
theorem mi_eq (M : sm_M) (a j : Nat) (v : Int32) : (sm_mi M a j v).1 a j = v := by simp [sm_mi]
theorem mi_na {M : sm_M} {a j : Nat} {v : Int32} {b : Nat} (h : b ≠ a) : (sm_mi M a j v).1 b = M.1 b := sm_mi_ne M a j v b h
theorem mi_ni {M : sm_M} {a j : Nat} {v : Int32} {b i : Nat} (h : i ≠ j) : (sm_mi M a j v).1 b i = M.1 b i := by simp [sm_mi, h]
theorem mi_2 (M : sm_M) (a j : Nat) (v : Int32) : (sm_mi M a j v).2 = M.2 := rfl
theorem ml_1 (M : sm_M) (a j : Nat) (v : Int64) : (sm_ml M a j v).1 = M.1 := rfl
theorem ml_eq (M : sm_M) (a j : Nat) (v : Int64) : (sm_ml M a j v).2 a j = v := by simp [sm_ml]
theorem ml_na {M : sm_M} {a j : Nat} {v : Int64} {b : Nat} (h : b ≠ a) : (sm_ml M a j v).2 b = M.2 b := sm_ml_ne M a j v b h
theorem ml_ni {M : sm_M} {a j : Nat} {v : Int64} {b i : Nat} (h : i ≠ j) : (sm_ml M a j v).2 b i = M.2 b i := by simp [sm_ml, h]
theorem mc_na {M : sm_M} {a b sp dp n x : Nat} (h : x ≠ b) : (sm_mc M a b sp dp n).1 x = M.1 x := by
  funext i
  simp [sm_mc, h]
theorem mc_in {M : sm_M} {a b n i : Nat} (h : i < n) : (sm_mc M a b 0 0 n).1 b i = M.1 a i := by
  simp [sm_mc, va_cpy, h]
theorem mc_2 (M : sm_M) (a b sp dp n : Nat) : (sm_mc M a b sp dp n).2 = M.2 := rfl
/-- nothing outside [l, h) has changed -/
def fz (l h : Nat) (M M' : sm_M) : Prop := ∀ a, (a < l ∨ h ≤ a) → M'.1 a = M.1 a ∧ M'.2 a = M.2 a
theorem fz_refl {l h : Nat} {M : sm_M} : fz l h M M := fun _ _ => ⟨rfl, rfl⟩
theorem fz_tr {l1 h1 l2 h2 l h : Nat} {M M1 M2 : sm_M} (f1 : fz l1 h1 M M1) (f2 : fz l2 h2 M1 M2) (a1 : l ≤ l1) (a2 : l ≤ l2) (b1 : h1 ≤ h) (b2 : h2 ≤ h) : fz l h M M2 := by
  intro a ha
  have e1 := f1 a (by omega)
  have e2 := f2 a (by omega)
  exact ⟨e2.1.trans e1.1, e2.2.trans e1.2⟩
theorem fz_w {l1 h1 l h : Nat} {M M1 : sm_M} (f1 : fz l1 h1 M M1) (a1 : l ≤ l1) (b1 : h1 ≤ h) : fz l h M M1 := fun a ha => f1 a (by omega)
theorem fz_mi {l h a j : Nat} {v : Int32} {M : sm_M} (h1 : l ≤ a) (h2 : a < h) : fz l h M (sm_mi M a j v) := fun b hb => ⟨mi_na (by omega), rfl⟩
theorem fz_ml {l h a j : Nat} {v : Int64} {M : sm_M} (h1 : l ≤ a) (h2 : a < h) : fz l h M (sm_ml M a j v) := fun b hb => ⟨rfl, ml_na (by omega)⟩
theorem fz_mc {l h a b sp dp n : Nat} {M : sm_M} (h1 : l ≤ b) (h2 : b < h) : fz l h M (sm_mc M a b sp dp n) := fun x hx => ⟨mc_na (by omega), rfl⟩
theorem fz_then {l h a j : Nat} {v : Int32} {M M1 : sm_M} (f : fz l h M M1) (h1 : l ≤ a) (h2 : a < h) : fz l h M (sm_mi M1 a j v) := fz_tr f (fz_mi h1 h2) (Nat.le_refl _) (Nat.le_refl _) (Nat.le_refl _) (Nat.le_refl _)
theorem fz_1 {l h : Nat} {M M' : sm_M} (f : fz l h M M') {a : Nat} (ha : a < l ∨ h ≤ a) : M'.1 a = M.1 a := (f a ha).1
theorem fz_2 {l h : Nat} {M M' : sm_M} (f : fz l h M M') {a : Nat} (ha : a < l ∨ h ≤ a) : M'.2 a = M.2 a := (f a ha).2
/-! ===== Arrays.fill ===== -/
theorem p_fill_l (F a0 n0 : Nat) (x1 : Int32) (hn : n0 < 2 ^ 31) : ∀ (n i : Nat) (M : sm_M), n0 < n + i → i ≤ n0 → okp (f_J7_fill_53178_5 F a0 n0 n x1 (nI i) (nI n0) M) (fun M' => (∀ j, i ≤ j → j < n0 → M'.1 a0 j = x1) ∧ (∀ j, j < i → M'.1 a0 j = M.1 a0 j) ∧ fz a0 (a0 + 1) M M') := by
  intro n
  induction n with
  | zero => intro i M h1 h2; omega
  | succ n ih =>
    intro i M h1 h2
    show okp (f_J7_fill_53178_5b F a0 n0 (f_J7_fill_53178_5 F a0 n0 n) x1 (nI i) (nI n0) M) _
    unfold f_J7_fill_53178_5b
    by_cases h : n0 ≤ i
    · refine okp_t (nI_le h (by omega)) (okp_some ⟨fun j _ _ => by omega, fun _ _ => rfl, fz_refl⟩)
    · refine okp_f (nI_ge (by omega) (by omega)) ?_
      simp (disch := omega) only [g_ib, nl_1, nI_add, nI_clamp]
      refine okp_mono (ih (i + 1) _ (by omega) (by omega)) ?_
      rintro M' ⟨a1, a2, a3⟩
      refine ⟨fun j hj1 hj2 => ?_, fun j hj => ?_, fz_tr (fz_mi (l := a0) (h := a0 + 1) (by omega) (by omega)) a3 (by omega) (by omega) (by omega) (by omega)⟩
      · by_cases e : j = i
        · subst e
          rw [a2 j (by omega), mi_eq]
        · exact a1 j (by omega) hj2
      · rw [a2 j (by omega), mi_ni (by omega)]
theorem p_fill {F a0 n0 : Nat} {x1 : Int32} {M : sm_M} (hF : n0 < F) (hn : n0 < 2 ^ 31) : okp (f_J7_fill_53178 F a0 n0 x1 M) (fun M' => (∀ j, j < n0 → M'.1 a0 j = x1) ∧ fz a0 (a0 + 1) M M') := by
  refine okp_mono (p_fill_l F a0 n0 x1 hn F 0 M (by omega) (by omega)) ?_
  rintro M' ⟨a1, -, a3⟩
  exact ⟨fun j hj => a1 j (by omega) hj, a3⟩
