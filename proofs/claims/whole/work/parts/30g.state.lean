/-! ===== the state of both sides: what the class's and the reference's memory hold ===== -/
def mfr (P : Nat → Nat → Prop) (M M' : sm_M) : Prop := (∀ a j, ¬ P a j → M'.1 a j = M.1 a j) ∧ M'.2 102 = M.2 102
theorem mfr_refl {P : Nat → Nat → Prop} {M : sm_M} : mfr P M M := ⟨fun _ _ _ => rfl, rfl⟩
theorem mfr_tr {P : Nat → Nat → Prop} {M M1 M2 : sm_M} (h1 : mfr P M M1) (h2 : mfr P M1 M2) : mfr P M M2 := ⟨fun a j h => (h2.1 a j h).trans (h1.1 a j h), h2.2.trans h1.2⟩
theorem mfr_w {P P' : Nat → Nat → Prop} {M M' : sm_M} (h : mfr P M M') (hp : ∀ a j, P a j → P' a j) : mfr P' M M' := ⟨fun a j q => h.1 a j (fun r => q (hp a j r)), h.2⟩
theorem mfr_mi {P : Nat → Nat → Prop} {M M1 : sm_M} {a j : Nat} {v : Int32} (h : mfr P M M1) (hp : P a j) : mfr P M (sm_mi M1 a j v) := by
  refine ⟨fun b i q => ?_, h.2⟩
  rw [mi_1, if_neg (fun e => q (by rw [e.1, e.2]; exact hp))]
  exact h.1 b i q
theorem mfr_ml {P : Nat → Nat → Prop} {M M1 : sm_M} {a j : Nat} {v : Int64} (h : mfr P M M1) (ha : a ≠ 102) : mfr P M (sm_ml M1 a j v) := ⟨h.1, by rw [ml_na (Ne.symm ha)]; exact h.2⟩
theorem mfr_fz {lo hi : Nat} {P : Nat → Nat → Prop} {M M1 M2 : sm_M} (h : mfr P M M1) (g : fz lo hi M1 M2) (hp : ∀ a j, lo ≤ a → a < hi → P a j) (h2 : hi ≤ 102) : mfr P M M2 := by
  refine ⟨fun a j q => ?_, ?_⟩
  · rcases Nat.lt_or_ge a lo with x | x
    · rw [fz_1 g (Or.inl x)]
      exact h.1 a j q
    · rcases Nat.lt_or_ge a hi with y | y
      · exact absurd (hp a j x y) q
      · rw [fz_1 g (Or.inr y)]
        exact h.1 a j q
  · rw [fz_2 g (Or.inr h2)]
    exact h.2
theorem mfr_row {P : Nat → Nat → Prop} {M M' : sm_M} {a : Nat} (h : mfr P M M') (hp : ∀ j, ¬ P a j) : M'.1 a = M.1 a := funext fun j => h.1 a j (hp j)
def PT (a j : Nat) : Prop := a = 80 ∧ j = 0
def PH (a j : Nat) : Prop := (a = 80 ∧ j = 15) ∨ a = 87 ∨ a = 88
def PS (a j : Nat) : Prop := (a = 80 ∧ (j = 12 ∨ j = 15)) ∨ (86 ≤ a ∧ a ≤ 88)
def PW (a _j : Nat) : Prop := a = 89 ∨ (92 ≤ a ∧ a ≤ 100)
def PR (a j : Nat) : Prop := (a = 80 ∧ j = 0) ∨ a = 89 ∨ (92 ≤ a ∧ a ≤ 100)
def PQ (a j : Nat) : Prop := (a = 80 ∧ (j = 0 ∨ j = 12 ∨ j = 15)) ∨ (86 ≤ a ∧ a ≤ 89) ∨ (92 ≤ a ∧ a ≤ 100)
def PA (a _j : Nat) : Prop := 80 ≤ a ∧ a ≤ 101
theorem PR_Q {a j : Nat} (h : PR a j) : PQ a j := by unfold PR at h; unfold PQ; omega
theorem PH_Q {a j : Nat} (h : PH a j) : PQ a j := by unfold PH at h; unfold PQ; omega
theorem PQ_A {a j : Nat} (h : PQ a j) : PA a j := by unfold PQ at h; unfold PA; omega
theorem PS_Q {a j : Nat} (h : PS a j) : PQ a j := by unfold PS at h; unfold PQ; omega
theorem PH_S {a j : Nat} (h : PH a j) : PS a j := by unfold PH at h; unfold PS; omega
theorem PW_R {a j : Nat} (h : PW a j) : PR a j := by unfold PW at h; unfold PR; omega
theorem PT_R {a j : Nat} (h : PT a j) : PR a j := by unfold PT at h; unfold PR; omega
/-! the family's graph, as lists -/
def vcd (κ m c : Nat) : Nat := if κ = 1 then wc (rnk (fun i => dg c (m - 1 - i)) m) m else c
def gF (κ n k : Nat) : List Nat := (els κ n k).map fun c => (idxo (vts κ n k) (vcd κ (n - 1) (c / 8))).getD 0
def gT (κ n k : Nat) : List Nat := (els κ n k).map fun c => (idxo (vts κ n k) (vcd κ (n - 1) (c % 8 ^ (n - 1)))).getD 0
def at0 (L : List Nat) (i : Nat) : Nat := L.getD i 0
def fpos (E : Nat → Nat) (m e : Nat) : Nat := fb_ct (fun x => decide (E x < E e)) m + fb_ct (fun x => decide (E x = E e)) e
def fanp (M : sm_M) (a : Nat) (E : Nat → Nat) (m V : Nat) : Prop := (∀ e, e < m → M.1 (a + 1) e = nI (E e)) ∧ (∀ v, v ≤ V → M.1 (a + 3) v = nI (fb_ct (fun e => decide (E e < v)) m)) ∧ ∀ e, e < m → M.1 (a + 2) (fpos E m e) = nI e
def cirun (E T : Nat → Nat) (m : Nat) : Nat → (Nat → Bool) → List (Nat × Nat) → List Nat → List Nat
  | 0, _, _, out => out
  | _ + 1, _, [], out => out
  | f + 1, u, (v, b) :: st, out => if fa_first (fun e => !u e && decide (E e = v)) m < m then cirun E T m f (fun x => decide (x = fa_first (fun e => !u e && decide (E e = v)) m) || u x) ((T (fa_first (fun e => !u e && decide (E e = v)) m), fa_first (fun e => !u e && decide (E e = v)) m + 1) :: (v, b) :: st) out else cirun E T m f u st (if b = 0 then out else (b - 1) :: out)
def cirL (κ n k : Nat) : List Nat := cirun (at0 (gF κ n k)) (at0 (gT κ n k)) (els κ n k).length (2 * (els κ n k).length + 1) (fun _ => false) [(0, 0)] []
def grp (M : sm_M) (κ n k : Nat) : Prop := codp M 6 (vts κ n k) ∧ fanp M 9 (at0 (gF κ n k)) (els κ n k).length (vts κ n k).length ∧ fanp M 13 (at0 (gT κ n k)) (els κ n k).length (vts κ n k).length ∧ M.1 5 10 = nI (els κ n k).length ∧ M.1 5 11 = nI (if (cirL κ n k).length = (els κ n k).length then 1 else 0) ∧ ((cirL κ n k).length = (els κ n k).length → ∀ i x, (cirL κ n k)[i]? = some x → M.1 17 i = nI x)
def CF (M : sm_M) (κ n k : Nat) : Prop := famp M κ n k ∧ (κ ≠ 3 → grp M κ n k)
theorem fanp_c {M M' : sm_M} {a : Nat} {E : Nat → Nat} {m V : Nat} (h : fanp M a E m V) (e : ∀ x, a < x → x < a + 4 → M'.1 x = M.1 x) : fanp M' a E m V := by
  unfold fanp
  rw [e (a + 1) (by omega) (by omega), e (a + 2) (by omega) (by omega), e (a + 3) (by omega) (by omega)]
  exact h
theorem CF_c {M M' : sm_M} {κ n k : Nat} (h : CF M κ n k) (e : ∀ x, 1 ≤ x → x < 18 → M'.1 x = M.1 x) : CF M' κ n k := by
  refine ⟨?_, fun h3 => ?_⟩
  · have h := h.1
    unfold famp at *
    rw [e 1 (by omega) (by omega)]
    exact ⟨h.1, h.2.1, h.2.2.1, codp_c h.2.2.2 (by rw [e 2 (by omega) (by omega)]) (e 3 (by omega) (by omega))⟩
  · have h := h.2 h3
    unfold grp at *
    rw [e 5 (by omega) (by omega), e 17 (by omega) (by omega)]
    exact ⟨codp_c h.1 (by rw [e 6 (by omega) (by omega)]) (e 7 (by omega) (by omega)), fanp_c h.2.1 (fun x h1 h2 => e x (by omega) (by omega)), fanp_c h.2.2.1 (fun x h1 h2 => e x (by omega) (by omega)), h.2.2.2⟩
/-! the sequence and its history -/
def okQ (k l : Nat) (s : Nat → Nat) (hc : Nat) (hl : Nat → Nat) (hs : Nat → Nat → Nat) : Prop := l ≤ 240 ∧ (∀ i, i < l → s i < k) ∧ hc ≤ 12 ∧ ∀ j, j < hc → hl j ≤ 240 ∧ ∀ i, i < hl j → hs j i < k
def hup (hc : Nat) : Nat := if hc + 1 ≤ 12 then hc + 1 else 12
theorem hup_le {hc : Nat} : hup hc ≤ 12 := by unfold hup; split <;> omega
theorem okQ_rec {k l l' : Nat} {s s' : Nat → Nat} {hc : Nat} {hl : Nat → Nat} {hs : Nat → Nat → Nat} (h : okQ k l s hc hl hs) (h1 : l' ≤ 240) (h2 : ∀ i, i < l' → s' i < k) : okQ k l' s' (hup hc) (hcons l hl) (hcons s hs) := by
  refine ⟨h1, h2, hup_le, fun j hj => ?_⟩
  match j, hj with
  | 0, _ => exact ⟨h.1, h.2.1⟩
  | j + 1, hj => exact h.2.2.2 j (by unfold hup at hj; split at hj <;> omega)
def CQ (M : sm_M) (l : Nat) (s : Nat → Nat) (hc : Nat) (hl : Nat → Nat) (hs : Nat → Nat → Nat) : Prop := rowp M 24 l s ∧ CH M hc hl hs
theorem CQ_c {M M' : sm_M} {l : Nat} {s : Nat → Nat} {hc : Nat} {hl : Nat → Nat} {hs : Nat → Nat → Nat} (h : CQ M l s hc hl hs) (e : ∀ x, 24 ≤ x → x < 52 → M'.1 x = M.1 x) : CQ M' l s hc hl hs := by
  refine ⟨rowp_c h.1 (e _ (by omega) (by omega)) (e _ (by omega) (by omega)), ?_⟩
  obtain ⟨nw, h1, h2, h3, h4, h5⟩ := h.2
  refine ⟨nw, h1, by rw [e 26 (by omega) (by omega)]; exact h2, by rw [e 26 (by omega) (by omega)]; exact h3, h4, fun j hj => ?_⟩
  have : (nw + 12 - j) % 12 < 12 := Nat.mod_lt _ (by decide)
  exact rowp_c (h5 j hj) (e _ (by omega) (by omega)) (e _ (by omega) (by omega))
def MsQ (M : sm_M) (l : Nat) (s : Nat → Nat) (hc : Nat) (hl : Nat → Nat) (hs : Nat → Nat → Nat) : Prop := M.1 80 12 = nI l ∧ (∀ i, i < l → M.1 86 i = nI (s i)) ∧ M.1 80 15 = nI hc ∧ ∀ j, j < hc → M.1 88 (hc - 1 - j) = nI (hl j) ∧ ∀ i, i < hl j → M.1 87 (240 * (hc - 1 - j) + i) = nI (hs j i)
theorem MsQ_c {M M' : sm_M} {l : Nat} {s : Nat → Nat} {hc : Nat} {hl : Nat → Nat} {hs : Nat → Nat → Nat} (h : MsQ M l s hc hl hs) (e1 : M'.1 80 12 = M.1 80 12) (e2 : M'.1 80 15 = M.1 80 15) (e : ∀ x, 86 ≤ x → x < 89 → M'.1 x = M.1 x) : MsQ M' l s hc hl hs := by
  unfold MsQ
  rw [e1, e2, e 86 (by omega) (by omega), e 87 (by omega) (by omega), e 88 (by omega) (by omega)]
  exact h
/-! buffers -/
abbrev Bf : Type := Nat × (Nat → Nat) × Nat × (Nat → Nat)
def okB (b : Bf) : Prop := b.1 ≤ 240 ∧ b.2.2.1 ≤ 240 ∧ (∀ i, i < b.1 → b.2.1 i < 65536) ∧ ∀ i, i < b.2.2.1 → b.2.2.2 i < 65536
def CB (M : sm_M) (b : Bf) : Prop := M.1 0 10 = nI b.1 ∧ (∀ i, i < b.1 → M.1 76 i = nI (b.2.1 i)) ∧ M.1 0 12 = nI b.2.2.1 ∧ ∀ i, i < b.2.2.1 → M.1 77 i = nI (b.2.2.2 i)
def MB (M : sm_M) (b : Bf) : Prop := M.1 80 18 = nI b.1 ∧ (∀ i, i < b.1 → M.1 90 i = nI (b.2.1 i)) ∧ M.1 80 20 = nI b.2.2.1 ∧ ∀ i, i < b.2.2.1 → M.1 91 i = nI (b.2.2.2 i)
theorem CB_c {M M' : sm_M} {b : Bf} (h : CB M b) (e1 : M'.1 0 10 = M.1 0 10) (e2 : M'.1 0 12 = M.1 0 12) (e3 : M'.1 76 = M.1 76) (e4 : M'.1 77 = M.1 77) : CB M' b := by
  unfold CB
  rw [e1, e2, e3, e4]
  exact h
theorem MB_c {M M' : sm_M} {b : Bf} (h : MB M b) (e1 : M'.1 80 18 = M.1 80 18) (e2 : M'.1 80 20 = M.1 80 20) (e3 : M'.1 90 = M.1 90) (e4 : M'.1 91 = M.1 91) : MB M' b := by
  unfold MB
  rw [e1, e2, e3, e4]
  exact h
/-! what is saved -/
abbrev Sv : Type := Nat × Nat × Nat × Nat × Nat × (Nat → Nat)
def okV (v : Sv) : Prop := v.1 = 0 ∨ (v.1 = 1 ∧ okF v.2.1 v.2.2.1 v.2.2.2.1 = true ∧ v.2.2.2.2.1 ≤ 240 ∧ ∀ i, i < v.2.2.2.2.1 → v.2.2.2.2.2 i < v.2.2.2.1)
def CV (M : sm_M) (v : Sv) : Prop := M.1 0 17 = nI v.1 ∧ (v.1 = 1 → M.1 0 14 = nI v.2.1 ∧ M.1 0 15 = nI v.2.2.1 ∧ M.1 0 16 = nI v.2.2.2.1 ∧ rowp M 78 v.2.2.2.2.1 v.2.2.2.2.2)
def MV (M : sm_M) (v : Sv) : Prop := M.1 80 30 = nI v.1 ∧ (v.1 = 1 → M.1 80 31 = nI v.2.1 ∧ M.1 80 32 = nI v.2.2.1 ∧ M.1 80 33 = nI v.2.2.2.1 ∧ M.1 80 34 = nI v.2.2.2.2.1 ∧ ∀ i, i < v.2.2.2.2.1 → M.1 101 i = nI (v.2.2.2.2.2 i))
theorem CV_c {M M' : sm_M} {v : Sv} (h : CV M v) (e : ∀ j, 14 ≤ j → j < 18 → M'.1 0 j = M.1 0 j) (e3 : M'.1 78 = M.1 78) (e4 : M'.1 79 = M.1 79) : CV M' v := by
  refine ⟨by rw [e 17 (by omega) (by omega)]; exact h.1, fun h1 => ?_⟩
  rw [e 14 (by omega) (by omega), e 15 (by omega) (by omega), e 16 (by omega) (by omega)]
  obtain ⟨a1, a2, a3, a4⟩ := h.2 h1
  exact ⟨a1, a2, a3, rowp_c a4 e3 e4⟩
theorem MV_c {M M' : sm_M} {v : Sv} (h : MV M v) (e : ∀ j, 30 ≤ j → j < 35 → M'.1 80 j = M.1 80 j) (e3 : M'.1 101 = M.1 101) : MV M' v := by
  unfold MV
  rw [e 30 (by omega) (by omega), e 31 (by omega) (by omega), e 32 (by omega) (by omega), e 33 (by omega) (by omega), e 34 (by omega) (by omega), e3]
  exact h
/-! the reference's family -/
def MF (M : sm_M) (κ n k : Nat) : Prop := M.1 80 1 = nI κ ∧ M.1 80 2 = nI n ∧ M.1 80 3 = nI k ∧ M.1 80 5 = nI (els κ n k).length ∧ (∀ e c, (els κ n k)[e]? = some c → ∀ i, i < n → M.1 81 (5 * e + i) = nI (dg c (n - 1 - i))) ∧ (∀ c, c < 8 ^ n → M.1 82 c = oI (idxo (els κ n k) c)) ∧ (κ ≠ 3 → M.1 80 7 = nI (vts κ n k).length ∧ ∀ e, e < (els κ n k).length → M.1 84 e = nI (at0 (gF κ n k) e) ∧ M.1 85 e = nI (at0 (gT κ n k) e))
theorem MF_c {M M' : sm_M} {κ n k : Nat} (h : MF M κ n k) (e : ∀ j, 1 ≤ j → j < 8 → M'.1 80 j = M.1 80 j) (e2 : ∀ x, 81 ≤ x → x < 86 → M'.1 x = M.1 x) : MF M' κ n k := by
  unfold MF
  rw [e 1 (by omega) (by omega), e 2 (by omega) (by omega), e 3 (by omega) (by omega), e 5 (by omega) (by omega), e 7 (by omega) (by omega), e2 81 (by omega) (by omega), e2 82 (by omega) (by omega), e2 84 (by omega) (by omega), e2 85 (by omega) (by omega)]
  exact h
/-! all together -/
def Ok (κ n k l : Nat) (s : Nat → Nat) (hc : Nat) (hl : Nat → Nat) (hs : Nat → Nat → Nat) (b : Bf) (v : Sv) : Prop := okF κ n k = true ∧ okQ k l s hc hl hs ∧ okB b ∧ okV v
def CA (M : sm_M) (κ n k l : Nat) (s : Nat → Nat) (hc : Nat) (hl : Nat → Nat) (hs : Nat → Nat → Nat) (b : Bf) (v : Sv) : Prop := CF M κ n k ∧ CQ M l s hc hl hs ∧ CB M b ∧ CV M v
def MA (M : sm_M) (κ n k l : Nat) (s : Nat → Nat) (hc : Nat) (hl : Nat → Nat) (hs : Nat → Nat → Nat) (b : Bf) (v : Sv) : Prop := MF M κ n k ∧ MsQ M l s hc hl hs ∧ MB M b ∧ MV M v
def IV (M : sm_M) : Prop := ∃ κ n k l s hc hl hs b v, Ok κ n k l s hc hl hs b v ∧ CA M κ n k l s hc hl hs b v ∧ MA M κ n k l s hc hl hs b v
/-- class's memory, all but scratch -/
def cfr (M M' : sm_M) : Prop := ∀ a, (a < 18 ∨ (24 ≤ a ∧ a < 52) ∨ 76 ≤ a) → M'.1 a = M.1 a ∧ M'.2 a = M.2 a
def cfq (M M' : sm_M) : Prop := ∀ a, (a < 18 ∨ 76 ≤ a) → M'.1 a = M.1 a ∧ M'.2 a = M.2 a
theorem cfr_q {M M' : sm_M} (h : cfr M M') : cfq M M' := fun a ha => h a (by omega)
theorem cfr_refl {M : sm_M} : cfr M M := fun _ _ => ⟨rfl, rfl⟩
theorem cfq_refl {M : sm_M} : cfq M M := fun _ _ => ⟨rfl, rfl⟩
theorem cfr_tr {M M1 M2 : sm_M} (h1 : cfr M M1) (h2 : cfr M1 M2) : cfr M M2 := fun a ha => ⟨(h2 a ha).1.trans (h1 a ha).1, (h2 a ha).2.trans (h1 a ha).2⟩
theorem cfq_tr {M M1 M2 : sm_M} (h1 : cfq M M1) (h2 : cfq M1 M2) : cfq M M2 := fun a ha => ⟨(h2 a ha).1.trans (h1 a ha).1, (h2 a ha).2.trans (h1 a ha).2⟩
theorem cfr_z {lo hi : Nat} {M M' : sm_M} (h : fz lo hi M M') (e : (52 ≤ lo ∧ hi ≤ 76) ∨ (18 ≤ lo ∧ hi ≤ 24)) : cfr M M' := fun a ha => h a (by omega)
theorem cfq_z {lo hi : Nat} {M M' : sm_M} (h : fz lo hi M M') (e : 18 ≤ lo ∧ hi ≤ 76) : cfq M M' := fun a ha => h a (by omega)
/-- the class's state, carried over what the reference did -/
theorem CA_m {P : Nat → Nat → Prop} {M M' : sm_M} {κ n k l : Nat} {s : Nat → Nat} {hc : Nat} {hl : Nat → Nat} {hs : Nat → Nat → Nat} {b : Bf} {v : Sv} (h : CA M κ n k l s hc hl hs b v) (g : mfr P M M') (hP : ∀ a j, P a j → PA a j) : CA M' κ n k l s hc hl hs b v := by
  have e : ∀ a, a < 80 → M'.1 a = M.1 a := fun a ha => mfr_row g (fun j q => by have := hP a j q; unfold PA at this; omega)
  refine ⟨CF_c h.1 (fun x _ _ => e x (by omega)), CQ_c h.2.1 (fun x _ _ => e x (by omega)), CB_c h.2.2.1 ?_ ?_ ?_ ?_, CV_c h.2.2.2 (fun j _ _ => ?_) ?_ ?_⟩ <;> rw [e _ (by omega)]
theorem MA_c {M M' : sm_M} {κ n k l : Nat} {s : Nat → Nat} {hc : Nat} {hl : Nat → Nat} {hs : Nat → Nat → Nat} {b : Bf} {v : Sv} (h : MA M κ n k l s hc hl hs b v) (e : ∀ a, 80 ≤ a → M'.1 a = M.1 a) : MA M' κ n k l s hc hl hs b v := by
  refine ⟨MF_c h.1 (fun j _ _ => ?_) (fun x _ _ => e x (by omega)), MsQ_c h.2.1 ?_ ?_ (fun x _ _ => e x (by omega)), MB_c h.2.2.1 ?_ ?_ ?_ ?_, MV_c h.2.2.2 (fun j _ _ => ?_) ?_⟩ <;> rw [e _ (by omega)]
theorem CA_q {M M' : sm_M} {κ n k l l' : Nat} {s s' : Nat → Nat} {hc hc' : Nat} {hl hl' : Nat → Nat} {hs hs' : Nat → Nat → Nat} {b : Bf} {v : Sv} (h : CA M κ n k l s hc hl hs b v) (g : cfq M M') (h2 : CQ M' l' s' hc' hl' hs') : CA M' κ n k l' s' hc' hl' hs' b v := by
  have e : ∀ a, (a < 18 ∨ 76 ≤ a) → M'.1 a = M.1 a := fun a ha => (g a ha).1
  refine ⟨CF_c h.1 (fun x _ _ => e x (by omega)), h2, CB_c h.2.2.1 ?_ ?_ ?_ ?_, CV_c h.2.2.2 (fun j _ _ => ?_) ?_ ?_⟩ <;> rw [e _ (by omega)]
theorem CQ_r {M M' : sm_M} {l : Nat} {s : Nat → Nat} {hc : Nat} {hl : Nat → Nat} {hs : Nat → Nat → Nat} (h : CQ M l s hc hl hs) (g : cfr M M') : CQ M' l s hc hl hs := CQ_c h (fun x _ _ => (g x (by omega)).1)
theorem MA_q {M M' : sm_M} {κ n k l l' : Nat} {s s' : Nat → Nat} {hc hc' : Nat} {hl hl' : Nat → Nat} {hs hs' : Nat → Nat → Nat} {b : Bf} {v : Sv} (h : MA M κ n k l s hc hl hs b v) (g : mfr PQ M M') (h2 : MsQ M' l' s' hc' hl' hs') : MA M' κ n k l' s' hc' hl' hs' b v := by
  refine ⟨MF_c h.1 (fun j _ _ => g.1 _ _ (by unfold PQ; omega)) (fun x _ _ => mfr_row g (fun j => by unfold PQ; omega)), h2, MB_c h.2.2.1 (g.1 _ _ (by unfold PQ; omega)) (g.1 _ _ (by unfold PQ; omega)) (mfr_row g (fun j => by unfold PQ; omega)) (mfr_row g (fun j => by unfold PQ; omega)), MV_c h.2.2.2 (fun j _ _ => g.1 _ _ (by unfold PQ; omega)) (mfr_row g (fun j => by unfold PQ; omega))⟩
theorem MsQ_r {M M' : sm_M} {l : Nat} {s : Nat → Nat} {hc : Nat} {hl : Nat → Nat} {hs : Nat → Nat → Nat} (h : MsQ M l s hc hl hs) (g : mfr PR M M') : MsQ M' l s hc hl hs := MsQ_c h (g.1 _ _ (by unfold PR; omega)) (g.1 _ _ (by unfold PR; omega)) (fun x _ _ => mfr_row g (fun j => by unfold PR; omega))
