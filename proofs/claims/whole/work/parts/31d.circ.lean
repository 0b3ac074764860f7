/-! ===== the standard circuit: what both walks keep ===== -/
def cuc (E : Nat → Nat) (u : Nat → Bool) (v m : Nat) : Nat := fb_ct (fun e => decide (E e = v) && u e) m
def nxe (E : Nat → Nat) (u : Nat → Bool) (v m : Nat) : Nat := fa_first (fun e => !u e && decide (E e = v)) m
def mno (E : Nat → Nat) (u : Nat → Bool) (m : Nat) : Prop := ∀ e e', e < e' → e' < m → E e = E e' → u e' = true → u e = true
def wfs (st : List (Nat × Nat)) : Prop := ∀ (i v b : Nat), st[i]? = some (v, b) → (b = 0 ↔ i + 1 = st.length)
theorem nxe_yes {E : Nat → Nat} {u : Nat → Bool} {v m : Nat} (h : nxe E u v m < m) : u (nxe E u v m) = false ∧ E (nxe E u v m) = v := by
  have := fa_first_yes _ _ h
  simp only [Bool.and_eq_true, Bool.not_eq_true', decide_eq_true_eq] at this
  exact this
theorem nxe_no {E : Nat → Nat} {u : Nat → Bool} {v m e : Nat} (h : e < nxe E u v m) (he : E e = v) : u e = true := by
  have := fa_first_no (fun e => !u e && decide (E e = v)) m e h
  simp [he] at this
  exact this
theorem cuc_lt {E : Nat → Nat} {u : Nat → Bool} {v m : Nat} (hm : mno E u m) (h : nxe E u v m < m) : cuc E u v m = eqc E v (nxe E u v m) := by
  obtain ⟨h1, h2⟩ := nxe_yes h
  have e1 : m = nxe E u v m + (m - nxe E u v m) := by omega
  have e2 : cuc E u v m = fb_ct (fun e => decide (E e = v) && u e) (nxe E u v m) + fb_ct (fun k => (fun e => decide (E e = v) && u e) (nxe E u v m + k)) (m - nxe E u v m) := by
    unfold cuc
    rw [← fb_ct_split, ← e1]
  have e3 : fb_ct (fun k => (fun e => decide (E e = v) && u e) (nxe E u v m + k)) (m - nxe E u v m) = 0 := by
    rw [fb_ct_zero]
    intro k hk
    simp only [Bool.and_eq_false_iff, decide_eq_false_iff_not]
    by_cases c : E (nxe E u v m + k) = v
    · right
      rw [← Bool.not_eq_true]
      intro q
      by_cases z : k = 0
      · subst z
        rw [Nat.add_zero, h1] at q
        cases q
      · have := hm (nxe E u v m) (nxe E u v m + k) (by omega) (by omega) (by rw [h2, c]) q
        rw [h1] at this
        cases this
    · exact Or.inl c
  rw [e2, e3, Nat.add_zero]
  unfold eqc
  apply fb_ct_cong
  intro k hk
  by_cases c : E k = v
  · simp [c, nxe_no hk c]
  · simp [c]
theorem cuc_all {E : Nat → Nat} {u : Nat → Bool} {v m : Nat} (h : ¬ nxe E u v m < m) : cuc E u v m = eqc E v m := by
  have hle : nxe E u v m ≤ m := fa_first_le _ _
  unfold cuc eqc
  apply fb_ct_cong
  intro k hk
  by_cases c : E k = v
  · simp [c, nxe_no (show k < nxe E u v m by omega) c]
  · simp [c]
def adu (u : Nat → Bool) (e x : Nat) : Bool := decide (x = e) || u x
theorem cuc_add {E : Nat → Nat} {u : Nat → Bool} {w m e : Nat} (he : e < m) (hu : u e = false) : cuc E (adu u e) w m = cuc E u w m + (if E e = w then 1 else 0) := by
  unfold cuc
  have h := fb_ct_upd (fun x => decide (E x = w) && u x) (decide (E e = w)) he
  have e1 : fb_ct (fun x => decide (E x = w) && adu u e x) m = fb_ct (fun x => if x = e then decide (E e = w) else (decide (E x = w) && u x)) m := by
    apply fb_ct_cong
    intro x hx
    unfold adu
    by_cases q : x = e
    · subst q
      simp
    · simp [q]
  rw [e1]
  have h1 : (if (decide (E e = w) && u e) = true then 1 else 0) = 0 := by
    rw [hu, Bool.and_false]
    rfl
  simp only [h1] at h
  by_cases c : E e = w
  · rw [if_pos c]
    rw [if_pos (decide_eq_true c)] at h
    omega
  · rw [if_neg c]
    rw [if_neg (by simp [c])] at h
    omega
theorem usd_add {u : Nat → Bool} {m e : Nat} (he : e < m) (hu : u e = false) : fb_ct (adu u e) m = fb_ct u m + 1 := by
  have h := fb_ct_upd u true he
  have e1 : fb_ct (adu u e) m = fb_ct (fun x => if x = e then true else u x) m := by
    apply fb_ct_cong
    intro x hx
    unfold adu
    by_cases q : x = e
    · simp [q]
    · simp [q]
  rw [e1]
  rw [hu, if_neg (by decide), if_pos rfl] at h
  omega
theorem usd_lt {u : Nat → Bool} {m e : Nat} (he : e < m) (hu : u e = false) : fb_ct u m < m := by
  have h1 := fb_ct_le (adu u e) m
  have h2 := usd_add he hu
  omega
theorem mno_add {E : Nat → Nat} {u : Nat → Bool} {v m : Nat} (hm : mno E u m) (h : nxe E u v m < m) : mno E (adu u (nxe E u v m)) m := by
  obtain ⟨h1, h2⟩ := nxe_yes h
  intro e e' h3 h4 h5 h6
  unfold adu at h6 ⊢
  simp only [Bool.or_eq_true, decide_eq_true_eq] at h6 ⊢
  rcases h6 with q | q
  · right
    exact nxe_no (E := E) (u := u) (v := v) (m := m) (by omega) (by rw [h5, q, h2])
  · right
    exact hm e e' h3 h4 h5 q
def cin (E : Nat → Nat) (m V : Nat) (u : Nat → Bool) (st : List (Nat × Nat)) (out : List Nat) : Prop := mno E u m ∧ wfs st ∧ out.length + st.length ≤ fb_ct u m + 1 ∧ out.length ≤ m ∧ (∀ (i v b : Nat), st[i]? = some (v, b) → v < V ∧ b ≤ m) ∧ ∀ (i x : Nat), out[i]? = some x → x < m
theorem cin_push {E T : Nat → Nat} {m V v b : Nat} {u : Nat → Bool} {st : List (Nat × Nat)} {out : List Nat} (h : cin E m V u ((v, b) :: st) out) (hn : nxe E u v m < m) (hT : T (nxe E u v m) < V) : cin E m V (adu u (nxe E u v m)) ((T (nxe E u v m), nxe E u v m + 1) :: (v, b) :: st) out ∧ st.length + 1 ≤ m := by
  obtain ⟨c1, c2, c3, c4, c5, c6⟩ := h
  obtain ⟨h1, h2⟩ := nxe_yes hn
  have ul := usd_lt hn h1
  simp only [List.length_cons] at c3
  refine ⟨⟨mno_add c1 hn, fun i x y hi => ?_, ?_, c4, fun i x y hi => ?_, c6⟩, by omega⟩
  · cases i with
    | zero =>
      simp only [List.getElem?_cons_zero, Option.some.injEq, Prod.mk.injEq] at hi
      simp only [List.length_cons]
      omega
    | succ i =>
      rw [List.getElem?_cons_succ] at hi
      have := c2 i x y hi
      simp only [List.length_cons] at this ⊢
      omega
  · rw [usd_add hn h1]
    simp only [List.length_cons]
    omega
  · cases i with
    | zero =>
      simp only [List.getElem?_cons_zero, Option.some.injEq, Prod.mk.injEq] at hi
      exact ⟨by rw [← hi.1]; exact hT, by omega⟩
    | succ i =>
      rw [List.getElem?_cons_succ] at hi
      exact c5 i x y hi
theorem cin_pop {E : Nat → Nat} {m V v b : Nat} {u : Nat → Bool} {st : List (Nat × Nat)} {out : List Nat} (h : cin E m V u ((v, b) :: st) out) : cin E m V u st (if b = 0 then out else (b - 1) :: out) ∧ (b = 0 ↔ st = []) ∧ (b ≠ 0 → out.length + 1 ≤ m ∧ b ≤ m) := by
  obtain ⟨c1, c2, c3, c4, c5, c6⟩ := h
  have hb := c2 0 v b rfl
  have hv := c5 0 v b rfl
  have ul := fb_ct_le u m
  simp only [List.length_cons] at c3 hb
  have hz : b = 0 ↔ st = [] := by
    rw [hb]
    constructor
    · intro q
      exact List.eq_nil_of_length_eq_zero (by omega)
    · intro q
      rw [q]
      rfl
  have hw : wfs st := fun i x y hi => by
    have := c2 (i + 1) x y (by rw [List.getElem?_cons_succ]; exact hi)
    simp only [List.length_cons] at this
    omega
  have h5 : ∀ i x y, st[i]? = some (x, y) → x < V ∧ y ≤ m := fun i x y hi => c5 (i + 1) x y (by rw [List.getElem?_cons_succ]; exact hi)
  by_cases q : b = 0
  · rw [if_pos q]
    exact ⟨⟨c1, hw, by omega, c4, h5, c6⟩, hz, fun r => absurd q r⟩
  · rw [if_neg q]
    have hs : 1 ≤ st.length := by
      cases st with
      | nil => exact absurd (hz.mpr rfl) q
      | cons a l => simp
    have ho : out.length + 1 ≤ m := by omega
    refine ⟨⟨c1, hw, ?_, ?_, h5, fun i x hi => ?_⟩, hz, fun _ => ⟨ho, hv.2⟩⟩
    · simp only [List.length_cons]
      omega
    · simp only [List.length_cons]
      omega
    · cases i with
      | zero =>
        simp only [List.getElem?_cons_zero, Option.some.injEq] at hi
        omega
      | succ i =>
        rw [List.getElem?_cons_succ] at hi
        exact c6 i x hi
theorem cirun_s {E T : Nat → Nat} {m f v b : Nat} {u : Nat → Bool} {st : List (Nat × Nat)} {out : List Nat} : cirun E T m (f + 1) u ((v, b) :: st) out = if nxe E u v m < m then cirun E T m f (adu u (nxe E u v m)) ((T (nxe E u v m), nxe E u v m + 1) :: (v, b) :: st) out else cirun E T m f u st (if b = 0 then out else (b - 1) :: out) := rfl
theorem cirun_n {E T : Nat → Nat} {m : Nat} {u : Nat → Bool} {out : List Nat} : ∀ f, cirun E T m f u [] out = out
  | 0 => rfl
  | _ + 1 => rfl
/-! the class -/
def bfr (M M' : sm_M) : Prop := (∀ a j, ¬ (a = 5 ∧ j = 11) → ¬ (17 ≤ a ∧ a ≤ 20) → M'.1 a j = M.1 a j) ∧ M'.2 = M.2
theorem bfr_mi {M M1 : sm_M} {a j : Nat} {v : Int32} (h : bfr M M1) (ha : (a = 5 ∧ j = 11) ∨ (17 ≤ a ∧ a ≤ 20)) : bfr M (sm_mi M1 a j v) := by
  refine ⟨fun x y h1 h2 => ?_, h.2⟩
  rw [mi_1, if_neg (fun e => by omega)]
  exact h.1 x y h1 h2
def bym (b : Nat) : Int32 := if b = 0 then mN else nI (b - 1)
def cbi (M : sm_M) (E : Nat → Nat) (m V : Nat) (u : Nat → Bool) (st : List (Nat × Nat)) (out : List Nat) : Prop := (∀ (i v b : Nat), st[i]? = some (v, b) → M.1 18 (st.length - 1 - i) = nI v ∧ M.1 19 (st.length - 1 - i) = bym b) ∧ (∀ v, v < V → M.1 20 v = nI (ltc E m v + cuc E u v m)) ∧ ∀ (i x : Nat), out[i]? = some x → M.1 17 (m - out.length + i) = nI x
theorem p_bc44 {F m V : Nat} {E T : Nat → Nat} {M0 : sm_M} (hm : m ≤ 200) (hV : V ≤ 199) (hfan : fanp M0 9 E m V) (hT : ∀ e, e < m → M0.1 14 e = nI (T e) ∧ T e < V) (h10 : M0.1 5 10 = nI m) : ∀ (z f turn : Nat) (u : Nat → Bool) (st : List (Nat × Nat)) (out : List Nat) (M : sm_M), f < z → turn + f = 2 * m + 1 → bfr M0 M → cin E m V u st out → cbi M E m V u st out → okp (f_X4_buildCircuit_44 F z (nI st.length) (nI (m - out.length)) (nI turn) M) (fun M' => M'.1 5 11 = nI (if (cirun E T m f u st out).length = m then 1 else 0) ∧ (∀ i x, (cirun E T m f u st out)[i]? = some x → M'.1 17 (m - (cirun E T m f u st out).length + i) = nI x) ∧ bfr M0 M') := by
  have fin : ∀ (out : List Nat) (M : sm_M), out.length ≤ m → bfr M0 M → (∀ i x, out[i]? = some x → M.1 17 (m - out.length + i) = nI x) → okp (f_X4_buildCircuit_182 F (nI (m - out.length)) M) (fun M' => M'.1 5 11 = nI (if out.length = m then 1 else 0) ∧ (∀ i x, out[i]? = some x → M'.1 17 (m - out.length + i) = nI x) ∧ bfr M0 M') := by
    intro out M h1 g h2
    unfold f_X4_buildCircuit_182 f_X4_buildCircuit_192
    by_cases c : out.length = m
    · rw [if_pos (by rw [c, Nat.sub_self]; rfl), nl_1, g_b1, if_pos c]
      exact okp_some ⟨mi_eq _ _ _ _, fun i x hi => by rw [mi_na (by omega)]; exact h2 i x hi, bfr_mi g (by omega)⟩
    · rw [if_neg (nI_ne0 (by omega) (by omega)), nl_0, g_b0, if_neg c]
      exact okp_some ⟨mi_eq _ _ _ _, fun i x hi => by rw [mi_na (by omega)]; exact h2 i x hi, bfr_mi g (by omega)⟩
  intro z
  induction z with
  | zero => intro f turn u st out M a; omega
  | succ z ih =>
    intro f turn u st out M a1 a2 g hc hb
    have m10 : M.1 5 10 = nI m := by rw [g.1 5 10 (by omega) (by omega)]; exact h10
    show okp (f_X4_buildCircuit_44b F (f_X4_buildCircuit_44 F z) _ _ _ _) _
    unfold f_X4_buildCircuit_44b f_X4_buildCircuit_176
    rw [m10, nl_2, pk_mul]
    cases f with
    | zero =>
      rw [if_pos (nI_lt (by omega) (by omega))]
      exact fin out M hc.2.2.2.1 g hb.2.2
    | succ f =>
      rw [if_neg (nI_nlt (by omega) (by omega))]
      cases st with
      | nil =>
        rw [if_pos (by decide)]
        rw [cirun_n]
        exact fin out M hc.2.2.2.1 g hb.2.2
      | cons vb st =>
        obtain ⟨v, b⟩ := vb
        obtain ⟨s1, s2⟩ := hb.1 0 v b rfl
        have hv := (hc.2.2.2.2.1 0 v b rfl).1
        have hlen : st.length + 1 ≤ 201 := by
          have := hc.2.2.1
          have := fb_ct_le u m
          simp only [List.length_cons] at *
          omega
        have e0 : ((v, b) :: st).length - 1 - 0 = st.length := by simp
        rw [e0] at s1 s2
        have e1 : nI ((v, b) :: st).length - 1 = nI st.length := by
          rw [List.length_cons]
          exact nI_pred _
        have e2 : nI ((v, b) :: st).length + (-1) = nI st.length := by
          rw [List.length_cons]
          exact pk_m1 _
        have e3 : nI ((v, b) :: st).length = nI (st.length + 1) := by rw [List.length_cons]
        have m12 : M.1 12 (v + 1) = nI (ltc E m (v + 1)) := by rw [g.1 12 _ (by omega) (by omega)]; exact hfan.2.1 (v + 1) (by omega)
        have hll := ltc_le (E := E) (m := m) (v := v + 1)
        have hls := ltc_s (E := E) (m := m) (v := v)
        have hcl : cuc E u v m ≤ m := fb_ct_le _ _
        rw [e1, e2, e3, if_neg (show ¬ nI (st.length + 1) ≤ 0 from nI_nle (by omega) (by omega)), cirun_s]
        simp only [g_ib (show st.length < 201 by omega) (show 201 < 2 ^ 31 by omega), nI_clamp (show st.length < 2 ^ 31 by omega), s1, g_ib (show v < 200 by omega) (show 200 < 2 ^ 31 by omega), nI_clamp (show v < 2 ^ 31 by omega), show nI v + 1 = nI (v + 1) from nI_1 v, g_ib (show v + 1 < 201 by omega) (show 201 < 2 ^ 31 by omega), nI_clamp (show v + 1 < 2 ^ 31 by omega), m12, hb.2.1 v hv]
        by_cases c : nxe E u v m < m
        · rw [if_pos c]
          obtain ⟨h1, h2⟩ := nxe_yes c
          have hcu := cuc_lt hc.1 c
          have hfp : ltc E m v + cuc E u v m = fpos E m (nxe E u v m) := by rw [fpos_eq, h2, hcu]
          have hfl := fpos_lt (E := E) c
          rw [h2] at hfl
          have m11 : M.1 11 (fpos E m (nxe E u v m)) = nI (nxe E u v m) := by rw [g.1 11 _ (by omega) (by omega)]; exact hfan.2.2 _ c
          obtain ⟨t1, t2⟩ := hT _ c
          obtain ⟨p1, p2⟩ := cin_push (T := T) hc c t2
          rw [hfp, if_neg (nI_ge hfl (by omega))]
          have m14 : M.1 14 (nxe E u v m) = nI (T (nxe E u v m)) := by rw [g.1 14 _ (by omega) (by omega)]; exact t1
          simp only [g_ib (show fpos E m (nxe E u v m) < 200 by omega) (show 200 < 2 ^ 31 by omega), nI_clamp (show fpos E m (nxe E u v m) < 2 ^ 31 by omega), m11, g_ib (show nxe E u v m < 200 by omega) (show 200 < 2 ^ 31 by omega), nI_clamp (show nxe E u v m < 2 ^ 31 by omega), g_ib (show st.length + 1 < 201 by omega) (show 201 < 2 ^ 31 by omega), nI_clamp (show st.length + 1 < 2 ^ 31 by omega), mi_na (show (14 : Nat) ≠ 20 by omega), m14, i1]
          have := ih f (turn + 1) (adu u (nxe E u v m)) ((T (nxe E u v m), nxe E u v m + 1) :: (v, b) :: st) out (sm_mi (sm_mi (sm_mi M 20 v (nI (fpos E m (nxe E u v m) + 1))) 18 (st.length + 1) (nI (T (nxe E u v m)))) 19 (st.length + 1) (nI (nxe E u v m))) (by omega) (by omega) (bfr_mi (bfr_mi (bfr_mi g (by omega)) (by omega)) (by omega)) p1 ⟨fun i x y hi => ?_, fun w hw => ?_, fun i x hi => ?_⟩
          · exact this
          · simp only [List.length_cons]
            cases i with
            | zero =>
              simp only [List.getElem?_cons_zero, Option.some.injEq, Prod.mk.injEq] at hi
              have e9 : st.length + 1 + 1 - 1 - 0 = st.length + 1 := by omega
              rw [e9, mi_na (by omega), mi_eq, mi_eq, ← hi.1, ← hi.2]
              exact ⟨rfl, rfl⟩
            | succ i =>
              rw [List.getElem?_cons_succ] at hi
              have hil := (List.getElem?_eq_some_iff.mp hi).1
              simp only [List.length_cons] at hil
              obtain ⟨r1, r2⟩ := hb.1 i x y hi
              simp only [List.length_cons] at r1 r2
              have e9 : st.length + 1 + 1 - 1 - (i + 1) = st.length + 1 - 1 - i := by omega
              rw [e9]
              refine ⟨?_, ?_⟩
              · rw [mi_na (by omega), mi_ni (by omega), mi_na (by omega)]
                exact r1
              · rw [mi_ni (by omega), mi_na (by omega), mi_na (by omega)]
                exact r2
          · rw [mi_na (by omega), mi_na (by omega), cuc_add c h1, h2]
            by_cases q : w = v
            · subst q
              rw [mi_eq, if_pos rfl, ← hfp]
              rfl
            · rw [mi_ni q, if_neg (fun r => q r.symm), Nat.add_zero]
              exact hb.2.1 w hw
          · rw [mi_na (by omega), mi_na (by omega), mi_na (by omega)]
            exact hb.2.2 i x hi
        · rw [if_neg c]
          have hcu := cuc_all c
          rw [if_pos (nI_le (by omega) (by omega)), s2]
          obtain ⟨p1, p2, p3⟩ := cin_pop hc
          have hst : ∀ M' : sm_M, (∀ a, 18 ≤ a → a ≤ 20 → M'.1 a = M.1 a) → (∀ (i v b : Nat), st[i]? = some (v, b) → M'.1 18 (st.length - 1 - i) = nI v ∧ M'.1 19 (st.length - 1 - i) = bym b) ∧ (∀ v, v < V → M'.1 20 v = nI (ltc E m v + cuc E u v m)) := fun M' e => by
            refine ⟨fun i x y hi => ?_, fun w hw => by rw [e 20 (by omega) (by omega)]; exact hb.2.1 w hw⟩
            have hil := (List.getElem?_eq_some_iff.mp hi).1
            obtain ⟨r1, r2⟩ := hb.1 (i + 1) x y (by rw [List.getElem?_cons_succ]; exact hi)
            simp only [List.length_cons] at r1 r2
            have e9 : st.length + 1 - 1 - (i + 1) = st.length - 1 - i := by omega
            rw [e9] at r1 r2
            rw [e 18 (by omega) (by omega), e 19 (by omega) (by omega)]
            exact ⟨r1, r2⟩
          by_cases q : b = 0
          · rw [if_pos q] at p1 ⊢
            have eb : bym b = mN := by unfold bym; rw [if_pos q]
            rw [eb, nl_m1, if_pos rfl, i1]
            obtain ⟨x1, x2⟩ := hst M (fun _ _ _ => rfl)
            exact ih f (turn + 1) u st out M (by omega) (by omega) g p1 ⟨x1, x2, hb.2.2⟩
          · rw [if_neg q] at p1 ⊢
            obtain ⟨p4, p5⟩ := p3 q
            have eb : bym b = nI (b - 1) := by unfold bym; rw [if_neg q]
            have e9 : nI (m - out.length) + (-1) = nI (m - ((b - 1) :: out).length) := by
              have : m - out.length = (m - ((b - 1) :: out).length) + 1 := by
                simp only [List.length_cons]
                omega
              rw [this]
              exact pk_m1 _
            have hlo : m - ((b - 1) :: out).length < 200 := by
              simp only [List.length_cons]
              omega
            rw [eb, nl_m1, if_neg (fun r => (mN_eq (by omega)).mp r), i1]
            have e10 : nI (m - out.length) + mN = nI (m - ((b - 1) :: out).length) := e9
            rw [e10, g_ib hlo (by omega), nI_clamp (by omega)]
            obtain ⟨x1, x2⟩ := hst (sm_mi M 17 (m - ((b - 1) :: out).length) (nI (b - 1))) (fun a h1 h2 => mi_na (by omega))
            refine ih f (turn + 1) u st ((b - 1) :: out) _ (by omega) (by omega) (bfr_mi g (by omega)) p1 ⟨x1, x2, fun i x hi => ?_⟩
            cases i with
            | zero =>
              simp only [List.getElem?_cons_zero, Option.some.injEq] at hi
              rw [Nat.add_zero, mi_eq, hi]
            | succ i =>
              rw [List.getElem?_cons_succ] at hi
              rw [mi_ni (by omega)]
              have e11 : m - ((b - 1) :: out).length + (i + 1) = m - out.length + i := by
                simp only [List.length_cons]
                omega
              rw [e11]
              exact hb.2.2 i x hi
