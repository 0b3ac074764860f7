/-! ===== distance, componentOf ===== -/
def ddp (E T : Nat → Nat) (m s r e v : Nat) : Option Nat := match dd E T m s r v with
  | some d => some d
  | none => if (List.range e).any (fun e => decide (dd E T m s r (E e) = some r) && decide (T e = v)) = true then some (r + 1) else none
theorem ddp_r {E T : Nat → Nat} {m s r e v : Nat} : ddp E T m s r e v = some r ↔ dd E T m s r v = some r := by
  unfold ddp
  cases dd E T m s r v with
  | some d => simp
  | none =>
    simp only
    split
    · simp
    · simp
theorem ddp_bd {E T : Nat → Nat} {m s r e v d : Nat} (h : ddp E T m s r e v = some d) : d ≤ r + 1 := by
  unfold ddp at h
  cases hd : dd E T m s r v with
  | some d' =>
    rw [hd] at h
    cases h
    have := (dd_le hd).1
    omega
  | none =>
    rw [hd] at h
    simp only at h
    split at h
    · cases h
      omega
    · cases h
theorem ddp_s {E T : Nat → Nat} {m s r e v : Nat} : ddp E T m s r (e + 1) v = if dd E T m s r (E e) = some r ∧ T e = v ∧ ddp E T m s r e v = none then some (r + 1) else ddp E T m s r e v := by
  unfold ddp
  cases dd E T m s r v with
  | some d => simp
  | none =>
    simp only [List.range_succ, List.any_append, List.any_cons, List.any_nil, Bool.or_false]
    by_cases c : (List.range e).any (fun e => decide (dd E T m s r (E e) = some r) && decide (T e = v)) = true
    · rw [c]
      simp
    · have c' : (List.range e).any (fun e => decide (dd E T m s r (E e) = some r) && decide (T e = v)) = false := by simpa using c
      rw [c']
      by_cases d1 : dd E T m s r (E e) = some r
      · by_cases d2 : T e = v
        · simp [d1, d2]
        · simp [d1, d2]
      · simp [d1]
theorem p_mfd {F m V s : Nat} {E T : Nat → Nat} {M0 : sm_M} (hF : 300 ≤ F) (hm : m ≤ 200) (hV : V ≤ 199) (h7 : M0.1 80 7 = nI V) (h5 : M0.1 80 5 = nI m) (hE : ∀ e, e < m → M0.1 84 e = nI (E e) ∧ E e < V) (hT : ∀ e, e < m → M0.1 85 e = nI (T e) ∧ T e < V) (hs : s < V) : okp (f_X12_findDistances F (nI s) M0) (fun M' => (∀ v, v < V → M'.1 95 v = oI (dd E T m s V v)) ∧ fz 95 96 M0 M') := by
  have inn : ∀ (kb : Int32 → sm_M → Option sm_M) (Q : sm_M → Prop) (r : Nat), r < V → (∀ M', fz 95 96 M0 M' → (∀ v, v < V → M'.1 95 v = oI (dd E T m s (r + 1) v)) → okp (kb (nI (r + 1)) M') Q) → ∀ (z e : Nat) (M : sm_M), m < z + e → e ≤ m → fz 95 96 M0 M → (∀ v, v < V → M.1 95 v = oI (ddp E T m s r e v)) → okp (f_X12_findDistances_44 F kb z (nI r) (nI e) M) Q := by
    intro kb Q r hr hk z
    induction z with
    | zero => intro e M a b; omega
    | succ z ih =>
      intro e M a1 a2 g b1
      show okp (f_X12_findDistances_44b F kb (f_X12_findDistances_44 F kb z) _ _ _) _
      unfold f_X12_findDistances_44b f_X12_findDistances_96
      rw [fz_1 g (a := 80) (by omega), h5]
      by_cases c : m ≤ e
      · have e9 : e = m := by omega
        subst e9
        rw [if_pos (nI_le c (by omega)), i1]
        refine hk M g (fun v hv => ?_)
        rw [b1 v hv]
        rfl
      · obtain ⟨x1, x2⟩ := hE e (by omega)
        obtain ⟨y1, y2⟩ := hT e (by omega)
        have d31 : ∀ v x, ddp E T m s r e v = some x → x < 2 ^ 31 := fun v x q => by have := ddp_bd q; omega
        rw [if_neg (nI_ge (by omega) (by omega))]
        simp only [g_ib (show e < 200 by omega) (show 200 < 2 ^ 31 by omega), nI_clamp (show e < 2 ^ 31 by omega), fz_1 g (a := 84) (Or.inl (by omega)), fz_1 g (a := 85) (Or.inl (by omega)), x1, y1, g_ib (show E e < 200 by omega) (show 200 < 2 ^ 31 by omega), g_ib (show T e < 200 by omega) (show 200 < 2 ^ 31 by omega), nI_clamp (show E e < 2 ^ 31 by omega), nI_clamp (show T e < 2 ^ 31 by omega), b1 (E e) x2, b1 (T e) y2, i1]
        have same : ¬ (dd E T m s r (E e) = some r ∧ ddp E T m s r e (T e) = none) → okp (f_X12_findDistances_44 F kb z (nI r) (nI (e + 1)) M) Q := fun q => by
          refine ih (e + 1) M (by omega) (by omega) g (fun v hv => ?_)
          rw [ddp_s, if_neg]
          · exact b1 v hv
          · rintro ⟨q1, q2, q3⟩
            rw [← q2] at q3
            exact q ⟨q1, q3⟩
        by_cases d1 : dd E T m s r (E e) = some r
        · refine okp_t (show oI (ddp E T m s r e (E e)) = nI r by rw [ddp_r.mpr d1]; rfl) ?_
          by_cases d2 : ddp E T m s r e (T e) = none
          · refine okp_t (show oI (ddp E T m s r e (T e)) = (-1 : Int32) by rw [d2]; rfl) ?_
            refine ih (e + 1) _ (by omega) (by omega) (fz_then g (by omega) (by omega)) (fun v hv => ?_)
            rw [ddp_s]
            by_cases q : v = T e
            · subst q
              rw [mi_eq, if_pos ⟨d1, rfl, d2⟩]
              rfl
            · rw [mi_ni q, if_neg (fun r => q r.2.1.symm)]
              exact b1 v hv
          · refine okp_f (fun q => d2 ((oI_eq (b := none) (d31 _) (fun _ h => by cases h)).mp q)) ?_
            exact same (fun q => d2 q.2)
        · refine okp_f (fun q => d1 (ddp_r.mp ((oI_eq (b := some r) (d31 _) (fun x h => by cases h; omega)).mp q))) ?_
          exact same (fun q => d1 q.1)
  have rnd : ∀ (z r : Nat) (M : sm_M), V < z + r → r ≤ V → fz 95 96 M0 M → (∀ v, v < V → M.1 95 v = oI (dd E T m s r v)) → okp (f_X12_findDistances_34 F z (nI r) M) (fun M' => (∀ v, v < V → M'.1 95 v = oI (dd E T m s V v)) ∧ fz 95 96 M0 M') := by
    intro z
    induction z with
    | zero => intro r M a b; omega
    | succ z ih =>
      intro r M a1 a2 g b1
      show okp (f_X12_findDistances_34b F (f_X12_findDistances_34 F z) _ _) _
      unfold f_X12_findDistances_34b
      rw [fz_1 g (a := 80) (by omega), h7]
      by_cases c : V ≤ r
      · have e9 : r = V := by omega
        subst e9
        rw [if_pos (nI_le c (by omega))]
        exact okp_some ⟨b1, g⟩
      · rw [if_neg (nI_ge (by omega) (by omega))]
        refine inn _ _ r (by omega) (fun M' g' b' => ih (r + 1) M' (by omega) (by omega) g' b') F 0 M (by omega) (by omega) g (fun v hv => ?_)
        rw [b1 v hv]
        unfold ddp
        cases dd E T m s r v with
        | some d => rfl
        | none => rfl
  have ini : ∀ (z v : Nat) (M : sm_M), V < z + v → v ≤ V → fz 95 96 M0 M → (∀ x, x < v → M.1 95 x = oI (dd E T m s 0 x)) → okp (f_X12_findDistances_2 F z (nI s) (nI v) M) (fun M' => (∀ v, v < V → M'.1 95 v = oI (dd E T m s V v)) ∧ fz 95 96 M0 M') := by
    intro z
    induction z with
    | zero => intro r M a b; omega
    | succ z ih =>
      intro v M a1 a2 g b1
      show okp (f_X12_findDistances_2b F (f_X12_findDistances_2 F z) _ _ _) _
      unfold f_X12_findDistances_2b f_X12_findDistances_25
      rw [fz_1 g (a := 80) (by omega), h7]
      by_cases c : V ≤ v
      · rw [if_pos (nI_le c (by omega))]
        exact rnd F 0 M (by omega) (by omega) g (fun x hx => b1 x (by omega))
      · rw [if_neg (nI_ge (by omega) (by omega)), g_ib (by omega) (by omega), g_ib (by omega) (by omega), nI_clamp (by omega), i1]
        have go : ∀ y, y = oI (dd E T m s 0 v) → okp (f_X12_findDistances_2 F z (nI s) (nI (v + 1)) (sm_mi M 95 v y)) (fun M' => (∀ v, v < V → M'.1 95 v = oI (dd E T m s V v)) ∧ fz 95 96 M0 M') := fun y hy => by
          refine ih (v + 1) _ (by omega) (by omega) (fz_then g (by omega) (by omega)) (fun x hx => ?_)
          by_cases q : x = v
          · subst q
            rw [mi_eq]
            exact hy
          · rw [mi_ni q]
            exact b1 x (by omega)
        by_cases q : v = s
        · rw [if_pos (by rw [q])]
          exact go _ (by unfold dd; rw [if_pos q]; rfl)
        · rw [if_neg (fun r => q ((nI_eq (by omega) (by omega)).mp r))]
          exact go _ (by unfold dd; rw [if_neg q]; rfl)
  exact ini F 0 M0 (by omega) (by omega) fz_refl (fun x hx => by omega)
/-! the class spreads -/
def spi (E T : Nat → Nat) (m V s t qn : Nat) (D : Nat → Option Nat) (Q : Nat → Nat) : Prop :=
  (1 ≤ qn ∧ qn ≤ V ∧ t ≤ qn) ∧ (∀ i, i < qn → Q i < V ∧ ∃ d, D (Q i) = some d) ∧ (∀ i j, i < j → j < qn → Q i ≠ Q j) ∧ (∀ v d, D v = some d → d < qn ∧ ∃ i, i < qn ∧ Q i = v) ∧ (∀ i j a b, i ≤ j → j < qn → D (Q i) = some a → D (Q j) = some b → a ≤ b) ∧ (D s = some 0 ∧ (∀ v, D v = some 0 → v = s) ∧ ∀ v d, D v = some (d + 1) → ∃ e, e < m ∧ T e = v ∧ D (E e) = some d) ∧ (∀ i e d, i < t → e < m → E e = Q i → D (Q i) = some d → ∃ d', D (T e) = some d' ∧ d' ≤ d + 1) ∧ (t < qn → ∀ v d dt, D v = some d → D (Q t) = some dt → d ≤ dt + 1)
theorem spi_add {E T : Nat → Nat} {m V s t qn e du : Nat} {D : Nat → Option Nat} {Q : Nat → Nat} (h : spi E T m V s t qn D Q) (ht : t < qn) (he : e < m) (hu : E e = Q t) (hd : D (Q t) = some du) (hv : D (T e) = none) (hTV : T e < V) : spi E T m V s t (qn + 1) (fun x => if x = T e then some (du + 1) else D x) (fun i => if i = qn then T e else Q i) := by
  obtain ⟨⟨a1, a2, a3⟩, a4, a5, a6, a7, ⟨a8, a9, a10⟩, a11, a12⟩ := h
  have nin : ∀ i, i < qn → Q i ≠ T e := fun i hi q => by
    obtain ⟨-, d, hd2⟩ := a4 i hi
    rw [q, hv] at hd2
    cases hd2
  have Dk : ∀ x d, D x = some d → (if x = T e then some (du + 1) else D x) = some d := fun x d hx => by
    rw [if_neg]
    · exact hx
    · intro q
      rw [q, hv] at hx
      cases hx
  have Qk : ∀ i, i < qn → (if i = qn then T e else Q i) = Q i := fun i hi => if_neg (by omega)
  have Ql : (if qn = qn then T e else Q qn) = T e := if_pos rfl
  have inj : ∀ i j, i < j → j < qn + 1 → (if i = qn then T e else Q i) ≠ (if j = qn then T e else Q j) := fun i j hij hj => by
    rw [Qk i (by omega)]
    by_cases q : j = qn
    · rw [if_pos q]
      exact nin i (by omega)
    · rw [if_neg q]
      exact a5 i j hij (by omega)
  have dsplit : ∀ x d, (if x = T e then some (du + 1) else D x) = some d → (x = T e ∧ d = du + 1) ∨ D x = some d := fun x d hx => by
    by_cases q : x = T e
    · rw [if_pos q] at hx
      cases hx
      exact Or.inl ⟨q, rfl⟩
    · rw [if_neg q] at hx
      exact Or.inr hx
  have hle : qn + 1 ≤ V := fb_holes V (qn + 1) (fun i => if i = qn then T e else Q i) (fun i hi => by
    by_cases q : i = qn
    · simp only [q, if_true]; exact hTV
    · simp only [q, if_false]; exact (a4 i (by omega)).1) inj
  refine ⟨⟨by omega, hle, by omega⟩, fun i hi => ?_, inj, fun x d hx => ?_, fun i j x y hij hj hx hy => ?_, ⟨Dk s 0 a8, fun x hx => ?_, fun x d hx => ?_⟩, fun i f d hi hf hq hx => ?_, fun _ x d dt hx hdt => ?_⟩
  · by_cases q : i = qn
    · simp only [q, if_true]
      exact ⟨hTV, du + 1, rfl⟩
    · obtain ⟨b1, d, b2⟩ := a4 i (by omega)
      simp only [Qk i (by omega)]
      exact ⟨b1, d, Dk _ _ b2⟩
  · rcases dsplit x d hx with ⟨q1, q2⟩ | q
    · have := (a6 _ _ hd).1
      exact ⟨by omega, qn, by omega, by simp only [if_true]; exact q1.symm⟩
    · obtain ⟨b1, i, b2, b3⟩ := a6 x d q
      exact ⟨by omega, i, by omega, by simp only [Qk i b2]; exact b3⟩
  · simp only at hx hy
    by_cases q : j = qn
    · rw [if_pos q] at hy
      rcases dsplit _ _ hy with ⟨-, q2⟩ | q2
      · by_cases r : i = qn
        · rw [if_pos r] at hx
          rcases dsplit _ _ hx with ⟨-, r2⟩ | r2
          · omega
          · rw [hv] at r2; cases r2
        · rw [if_neg r] at hx
          rcases dsplit _ _ hx with ⟨r1, -⟩ | r2
          · exact absurd r1 (nin i (by omega))
          · have := a12 ht _ _ _ r2 hd
            omega
      · rw [hv] at q2; cases q2
    · rw [if_neg q] at hy
      rw [if_neg (show ¬ i = qn by omega)] at hx
      rcases dsplit _ _ hy with ⟨r1, -⟩ | r2
      · exact absurd r1 (nin j (by omega))
      · rcases dsplit _ _ hx with ⟨r3, -⟩ | r4
        · exact absurd r3 (nin i (by omega))
        · exact a7 i j x y hij (by omega) r4 r2
  · rcases dsplit x 0 hx with ⟨-, q⟩ | q
    · omega
    · exact a9 x q
  · rcases dsplit x (d + 1) hx with ⟨q1, q2⟩ | q
    · refine ⟨e, he, q1.symm, ?_⟩
      rw [hu]
      have : d = du := by omega
      rw [this]
      exact Dk _ _ hd
    · obtain ⟨f, b1, b2, b3⟩ := a10 x d q
      exact ⟨f, b1, b2, Dk _ _ b3⟩
  · simp only at hq hx
    rw [Qk i (by omega)] at hq hx
    rcases dsplit _ _ hx with ⟨q1, -⟩ | q
    · exact absurd q1 (nin i (by omega))
    · obtain ⟨d', b1, b2⟩ := a11 i f d hi hf hq q
      exact ⟨d', Dk _ _ b1, b2⟩
  · simp only at hdt
    rw [Qk t ht] at hdt
    have e1 : dt = du := by
      have := Dk _ _ hd
      rw [this] at hdt
      cases hdt
      rfl
    rcases dsplit x d hx with ⟨-, q2⟩ | q
    · omega
    · have := a12 ht x d du q hd
      omega
theorem spi_next {E T : Nat → Nat} {m V s t qn du : Nat} {D : Nat → Option Nat} {Q : Nat → Nat} (h : spi E T m V s t qn D Q) (ht : t < qn) (hd : D (Q t) = some du) (hp : ∀ e, e < m → E e = Q t → ∃ d', D (T e) = some d' ∧ d' ≤ du + 1) : spi E T m V s (t + 1) qn D Q := by
  obtain ⟨⟨a1, a2, a3⟩, a4, a5, a6, a7, a8, a11, a12⟩ := h
  refine ⟨⟨a1, a2, by omega⟩, a4, a5, a6, a7, a8, fun i e d hi he hq hx => ?_, fun h1 v d dt hv hdt => ?_⟩
  · by_cases q : i = t
    · subst q
      rw [hd] at hx
      cases hx
      exact hp e he hq
    · exact a11 i e d (by omega) he hq hx
  · have b1 := a12 ht v d du hv hd
    have b2 := a7 t (t + 1) du dt (by omega) h1 hd hdt
    omega
theorem spi_dok {E T : Nat → Nat} {m V s qn : Nat} {D : Nat → Option Nat} {Q : Nat → Nat} (h : spi E T m V s qn qn D Q) : dok E T m s D := by
  obtain ⟨-, -, -, a6, -, ⟨a8, a9, a10⟩, a11, -⟩ := h
  refine ⟨a8, fun e d he hd => ?_, a9, a10⟩
  obtain ⟨-, i, hi, hq⟩ := a6 _ _ hd
  have hq' : D (Q i) = some d := by rw [hq]; exact hd
  exact a11 i e d hi he hq.symm hq'
theorem fan_at {E : Nat → Nat} {m u i : Nat} (h1 : ltc E m u ≤ i) (h2 : i < ltc E m (u + 1)) : ∃ e, e < m ∧ E e = u ∧ fpos E m e = i := by
  rw [ltc_s] at h2
  obtain ⟨e, he, hp, hk⟩ := fb_ct_kth (p := fun x => decide (E x = u)) (k := i - ltc E m u) (n := m) (by unfold eqc at h2; omega)
  have hp' : E e = u := by simpa using hp
  refine ⟨e, he, hp', ?_⟩
  rw [fpos_eq, hp']
  unfold eqc
  omega
def sfr (a4 : Nat) (M M' : sm_M) : Prop := ∀ a, a ≠ 21 → a ≠ a4 → M'.1 a = M.1 a ∧ M'.2 a = M.2 a
theorem sfr_tr {a4 : Nat} {M M1 M2 : sm_M} (h1 : sfr a4 M M1) (h2 : sfr a4 M1 M2) : sfr a4 M M2 := fun a x y => ⟨(h2 a x y).1.trans (h1 a x y).1, (h2 a x y).2.trans (h1 a x y).2⟩
def spm (M : sm_M) (a4 V qn : Nat) (D : Nat → Option Nat) (Q : Nat → Nat) : Prop := (∀ i, i < qn → M.1 21 i = nI (Q i)) ∧ ∀ v, v < V → M.1 a4 v = oI (D v)
theorem p_sp61 {F a2 a3 a4 m V s t u du : Nat} {E T : Nat → Nat} {M0 : sm_M} {kb : Int32 → Int32 → sm_M → Option sm_M} {R : sm_M → Prop} (h4 : a4 = 22 ∨ a4 = 23) (ha2 : a2 = 9 ∨ a2 = 13) (ha3 : a3 = 9 ∨ a3 = 13) (hm : m ≤ 200) (hV : V ≤ 199) (hfan : fanp M0 a2 E m V) (hT : ∀ e, e < m → M0.1 (a3 + 1) e = nI (T e) ∧ T e < V) (hu : u < V)
    (hk : ∀ qn D Q M, spi E T m V s (t + 1) qn D Q → spm M a4 V qn D Q → sfr a4 M0 M → okp (kb (nI qn) (nI (t + 1)) M) R) :
    ∀ (z i qn : Nat) (D : Nat → Option Nat) (Q : Nat → Nat) (M : sm_M), ltc E m (u + 1) < z + i → ltc E m u ≤ i → i ≤ ltc E m (u + 1) → t < qn → spi E T m V s t qn D Q → spm M a4 V qn D Q → sfr a4 M0 M → Q t = u → D u = some du → (∀ e, e < m → E e = u → fpos E m e < i → ∃ d', D (T e) = some d' ∧ d' ≤ du + 1) → okp (f_X4_spread_61 F a2 a3 a4 200 kb z (nI qn) (nI t) (nI u) (nI i) M) R := by
  intro z
  induction z with
  | zero => intro i qn D Q M a b; omega
  | succ z ih =>
    intro i qn D Q M a1 b1 b2 tq hs hM g hq hd hp
    have ll := ltc_le (E := E) (m := m) (v := u + 1)
    have m3 : M.1 (a2 + 3) (u + 1) = nI (ltc E m (u + 1)) := by rw [(g (a2 + 3) (by omega) (by omega)).1]; exact hfan.2.1 (u + 1) (by omega)
    show okp (f_X4_spread_61b F a2 a3 a4 200 kb (f_X4_spread_61 F a2 a3 a4 200 kb z) _ _ _ _ _) _
    unfold f_X4_spread_61b f_X4_spread_122
    have qv := hs.1
    rw [nl_1, nI_add, g_ib (show u + 1 < 201 by omega) (by omega), nI_clamp (show u + 1 < 2 ^ 31 by omega), m3]
    by_cases c : ltc E m (u + 1) ≤ i
    · rw [if_pos (nI_le c (by omega)), nI_add]
      refine hk qn D Q M (spi_next hs tq (by rw [hq]; exact hd) (fun e he hE => ?_)) hM g
      rw [hq] at hE
      exact hp e he hE (by have := fpos_lt (E := E) he; rw [hE] at this; omega)
    · obtain ⟨e, he, hE, hf⟩ := fan_at b1 (show i < ltc E m (u + 1) by omega)
      obtain ⟨t1, t2⟩ := hT e he
      have m2 : M.1 (a2 + 2) i = nI e := by rw [(g (a2 + 2) (by omega) (by omega)).1, ← hf]; exact hfan.2.2 e he
      have m1 : M.1 (a3 + 1) e = nI (T e) := by rw [(g (a3 + 1) (by omega) (by omega)).1]; exact t1
      have dl := (hs.2.2.2.1 u du hd).1
      rw [if_neg (nI_ge (by omega) (by omega))]
      simp only [g_ib (show i < 200 by omega) (show 200 < 2 ^ 31 by omega), nI_clamp (show i < 2 ^ 31 by omega), m2, g_ib (show e < 200 by omega) (show 200 < 2 ^ 31 by omega), nI_clamp (show e < 2 ^ 31 by omega), m1, g_ib (show T e < 200 by omega) (show 200 < 2 ^ 31 by omega), nI_clamp (show T e < 2 ^ 31 by omega), hM.2 (T e) t2, nI_add]
      have old : ∀ d', D (T e) = some d' → okp (f_X4_spread_61 F a2 a3 a4 200 kb z (nI qn) (nI t) (nI u) (nI (i + 1)) M) R := fun d' hd' => by
        refine ih (i + 1) qn D Q M (by omega) (by omega) (by omega) tq hs hM g hq hd (fun f hf1 hf2 hf3 => ?_)
        by_cases q : fpos E m f = i
        · have : f = e := fpos_inj hf1 he (by rw [q, hf])
          subst this
          exact ⟨d', hd', hs.2.2.2.2.2.2.2 tq _ _ _ hd' (by rw [hq]; exact hd)⟩
        · exact hp f hf1 hf2 (by omega)
      cases hv : D (T e) with
      | none =>
        refine okp_t rfl ?_
        have ha := spi_add hs tq he (by rw [hE, hq]) (by rw [hq]; exact hd) hv t2
        have qle := ha.1.2.1
        rw [g_ib (show u < 200 by omega) (by omega), g_ib (show qn < 200 by omega) (by omega), nI_clamp (show u < 2 ^ 31 by omega), nI_clamp (show qn < 2 ^ 31 by omega), hM.2 u hu, hd]
        show okp (f_X4_spread_61 F a2 a3 a4 200 kb z (nI (qn + 1)) (nI t) (nI u) (nI (i + 1)) (sm_mi (sm_mi M a4 (T e) (nI du + nI 1)) 21 qn (nI (T e)))) R
        rw [nI_add]
        have une : u ≠ T e := fun q => by rw [← q, hd] at hv; cases hv
        refine ih (i + 1) (qn + 1) _ _ _ (by omega) (by omega) (by omega) (by omega) ha ⟨fun j hj => ?_, fun v hv2 => ?_⟩ (fun a x y => ⟨?_, ?_⟩) ?_ ?_ (fun f hf1 hf2 hf3 => ?_)
        · show _ = nI (if j = qn then T e else Q j)
          by_cases q : j = qn
          · subst q
            rw [mi_eq, if_pos rfl]
          · rw [mi_ni q, mi_na (by omega), if_neg q]
            exact hM.1 j (by omega)
        · show _ = oI (if v = T e then some (du + 1) else D v)
          rw [mi_na (by omega)]
          by_cases q : v = T e
          · subst q
            rw [mi_eq, if_pos rfl]
            rfl
          · rw [mi_ni q, if_neg q]
            exact hM.2 v hv2
        · rw [mi_na x, mi_na y]
          exact (g a x y).1
        · exact (g a x y).2
        · show (if t = qn then T e else Q t) = u
          rw [if_neg (by omega)]
          exact hq
        · show (if u = T e then some (du + 1) else D u) = some du
          rw [if_neg une]
          exact hd
        · by_cases q : fpos E m f = i
          · have : f = e := fpos_inj hf1 he (by rw [q, hf])
            subst this
            exact ⟨du + 1, if_pos rfl, Nat.le_refl _⟩
          · obtain ⟨d', h5, h6⟩ := hp f hf1 hf2 (by omega)
            refine ⟨d', ?_, h6⟩
            rw [if_neg]
            · exact h5
            · intro r
              rw [r, hv] at h5
              cases h5
      | some d' =>
        have := (hs.2.2.2.1 _ _ hv).1
        refine okp_f (fun q => (mN_eq (show d' < 2 ^ 31 by omega)).mp q) ?_
        exact old d' hv
theorem cc_spread {F a2 a3 a4 m V s : Nat} {E T : Nat → Nat} {M : sm_M} (hF : 500 ≤ F) (h4 : a4 = 22 ∨ a4 = 23) (ha2 : a2 = 9 ∨ a2 = 13) (ha3 : a3 = 9 ∨ a3 = 13) (hm : m ≤ 200) (hV : V ≤ 199) (h6 : M.1 6 2 = nI V) (hfan : fanp M a2 E m V) (hE : ∀ e, e < m → E e < V) (hT : ∀ e, e < m → M.1 (a3 + 1) e = nI (T e) ∧ T e < V) (hs : s < V) : okp (f_X4_spread F a2 a3 a4 200 (nI s) M) (fun M' => (∀ v, v < V → M'.1 a4 v = oI (dd E T m s V v)) ∧ sfr a4 M M') := by
  have fin : ∀ qn D Q (M' : sm_M), spi E T m V s qn qn D Q → spm M' a4 V qn D Q → ∀ v, v < V → M'.1 a4 v = oI (dd E T m s V v) := fun qn D Q M' h1 h2 v hv => by
    rw [h2.2 v hv, dok_eq (spi_dok h1) (dd_dok (fun e he => ⟨hE e he, (hT e he).2⟩) hs) v]
  have key : ∀ (z t qn : Nat) (D : Nat → Option Nat) (Q : Nat → Nat) (M1 : sm_M), V < z + t → spi E T m V s t qn D Q → spm M1 a4 V qn D Q → sfr a4 M M1 → okp (f_X4_spread_24 F a2 a3 a4 200 z (nI qn) (nI t) M1) (fun M' => (∀ v, v < V → M'.1 a4 v = oI (dd E T m s V v)) ∧ sfr a4 M M') := by
    intro z
    induction z with
    | zero =>
      intro t qn D Q M1 a h
      have := h.1
      omega
    | succ z ih =>
      intro t qn D Q M1 a1 hsp hM g
      obtain ⟨q1, q2, q3⟩ := hsp.1
      show okp (f_X4_spread_24b F a2 a3 a4 200 (f_X4_spread_24 F a2 a3 a4 200 z) _ _ _) _
      unfold f_X4_spread_24b f_X4_spread_134
      by_cases c : qn ≤ t
      · have e : t = qn := by omega
        subst e
        rw [if_pos (nI_le c (by omega))]
        exact okp_some ⟨fin t D Q M1 hsp hM, g⟩
      · obtain ⟨uV, du, hdu⟩ := hsp.2.1 t (by omega)
        have fg : fanp M1 a2 E m V := fanp_c hfan (fun x x1 x2 => (g x (by omega) (by omega)).1)
        have s3 : M1.1 (a2 + 3) (Q t) = nI (ltc E m (Q t)) := fg.2.1 (Q t) (by omega)
        rw [if_neg (nI_ge (by omega) (by omega)), (g 6 (by omega) (by omega)).1, h6, if_neg (nI_ge (by omega) (by omega)), g_ib (by omega) (by omega), nI_clamp (by omega), hM.1 t (by omega), g_ib (by omega) (by omega), nI_clamp (by omega), s3]
        have ll := ltc_le (E := E) (m := m) (v := Q t + 1)
        exact p_sp61 (M0 := M1) h4 ha2 ha3 hm hV fg (fun e he => ⟨by rw [(g (a3 + 1) (by omega) (by omega)).1]; exact (hT e he).1, (hT e he).2⟩) uV (fun qn' D' Q' M' s1 s2 s4 => ih (t + 1) qn' D' Q' M' (by omega) s1 s2 (sfr_tr g s4)) F (ltc E m (Q t)) qn D Q M1 (by omega) (Nat.le_refl _) (ltc_mono (by omega)) (by omega) hsp hM (fun _ _ _ => ⟨rfl, rfl⟩) rfl hdu (fun e he hEe hf => by rw [fpos_eq, hEe] at hf; omega)
  unfold f_X4_spread
  refine okp_bind (p_fill (by omega) (by omega)) ?_
  rintro M1 ⟨q1, g1⟩
  rw [g_ib (by omega) (by omega), nI_clamp (by omega), c0]
  refine key F 0 1 (fun v => if v = s then some 0 else none) (fun _ => s) _ (by omega) ⟨⟨Nat.le_refl _, by omega, by omega⟩, fun i hi => ⟨hs, 0, if_pos rfl⟩, fun i j h1 h2 => by omega, fun v d hv => ?_, fun i j x y _ _ hx hy => ?_, ⟨if_pos rfl, fun v hv => ?_, fun v d hv => ?_⟩, fun i e d hi => by omega, fun _ v d dt hv hdt => ?_⟩ ⟨fun i hi => ?_, fun v hv => ?_⟩ (fun a x y => ⟨?_, ?_⟩)
  · simp only at hv
    by_cases q : v = s
    · rw [if_pos q] at hv
      cases hv
      exact ⟨by omega, 0, by omega, q.symm⟩
    · rw [if_neg q] at hv
      cases hv
  · simp only [if_true] at hx
    cases hx
    exact Nat.zero_le _
  · simp only at hv
    by_cases q : v = s
    · exact q
    · rw [if_neg q] at hv
      cases hv
  · simp only at hv
    by_cases q : v = s
    · rw [if_pos q] at hv
      cases hv
    · rw [if_neg q] at hv
      cases hv
  · simp only at hv
    by_cases q : v = s
    · rw [if_pos q] at hv
      cases hv
      exact Nat.zero_le _
    · rw [if_neg q] at hv
      cases hv
  · have : i = 0 := by omega
    subst this
    rw [mi_eq]
  · rw [mi_na (by omega)]
    show _ = oI (if v = s then some 0 else none)
    by_cases q : v = s
    · subst q
      rw [mi_eq, if_pos rfl]
      rfl
    · rw [mi_ni q, if_neg q, q1 v (by omega)]
      rfl
  · rw [mi_na x, mi_na y, fz_1 g1 (by omega)]
  · rw [mi_2, mi_2, fz_2 g1 (by omega)]
