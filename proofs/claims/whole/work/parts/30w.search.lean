/-! ===== search: the class goes back ===== -/
def rlu (κ n k E : Nat) (w : Nat → Nat) (f c q e : Nat) : Bool := (List.range f).any (fun x => (decide (x < c) || decide (q ≤ x)) && decide (shp κ n k w E x = some e))
theorem rlu_iff {κ n k E : Nat} {w : Nat → Nat} {f c q e : Nat} : rlu κ n k E w f c q e = true ↔ ∃ x, x < f ∧ (x < c ∨ q ≤ x) ∧ shp κ n k w E x = some e := by
  unfold rlu
  simp
theorem p_rel {F κ n k E pos f : Nat} {w : Nat → Nat} {M0 : sm_M} (ho : okF κ n k = true) (hE : E = (els κ n k).length) (hp : pos < E) (hk : csr M0 κ n k E pos f w) (hf1 : cdn n pos ≤ f) (hf2 : f ≤ cup n E pos) (hcu : cup n E pos ≤ E) : ∀ (m q : Nat) (M : sm_M), cup n E pos < m + q → cdn n pos ≤ q → q ≤ cup n E pos → fz 60 62 M0 M → (∀ x, x < 240 → M.1 60 x = if x < cdn n pos then oI (shp κ n k w E x) else if x < q then mN else if x < f then oI (shp κ n k w E x) else mN) → (∀ e, e < E → M.1 61 e = bI (rlu κ n k E w f (cdn n pos) q e)) → okp (f_X8_releaseWindows_12 F m (nI (cup n E pos) - nI 1) (nI q) M) (fun M' => fz 60 62 M0 M' ∧ csr M' κ n k E pos (cdn n pos) w) := by
  have h200 := (els_ok ho).2.1
  obtain ⟨k1, k2, k3, k4, k5, k6, k7, k8⟩ := id hk
  intro m
  induction m with
  | zero => intro q M a b; omega
  | succ m ih =>
    intro q M a1 a2 a3 g b1 b2
    show okp (f_X8_releaseWindows_12b F (f_X8_releaseWindows_12 F m) _ _ _) _
    unfold f_X8_releaseWindows_12b f_X8_releaseWindows_46
    by_cases c : cup n E pos ≤ q
    · rw [if_pos ((hi_lt (by omega) (by omega)).mpr c)]
      refine okp_some ⟨g, by rw [fz_1 g (by omega)]; exact k1, by rw [fz_1 g (by omega)]; exact k2, by rw [fz_1 g (by omega)]; exact k3, fun i hi => by rw [fz_1 g (by omega)]; exact k4 i hi, k5, fun x hx => ?_, fun e he => ?_, fun x hx => k8 x (by omega)⟩
      · rw [b1 x hx]
        by_cases z : x < cdn n pos
        · rw [if_pos z, if_pos z]
        · rw [if_neg z, if_neg z]
          by_cases y : x < q
          · rw [if_pos y]
          · rw [if_neg y, if_neg (by omega)]
      · rw [b2 e he]
        congr 1
        rw [Bool.eq_iff_iff, rlu_iff, mkc_iff]
        constructor
        · rintro ⟨x, h1, h2, h3⟩
          exact ⟨x, by omega, h3⟩
        · rintro ⟨x, h1, h2⟩
          exact ⟨x, by omega, Or.inl h1, h2⟩
    · rw [if_neg (fun y => c ((hi_lt (by omega) (by omega)).mp y)), g_ib (by omega) (by omega), nI_clamp (by omega), b1 q (by omega), if_neg (show ¬ q < cdn n pos by omega), if_neg (show ¬ q < q by omega), nl_m1, nl_0, vb_0, i1]
      by_cases d : q < f
      · rw [if_pos d]
        obtain ⟨e, h1, h2⟩ := bdw_f (k8 q d)
        have he : e < E := by rw [hE]; exact (shp_lt ho h1).1
        rw [h1]
        refine okp_f (fun y => (mN_eq (show e < 2 ^ 31 by omega)).mp y) ?_
        show okp (sm_g (sm_ib (nI e) 200) (sm_g (sm_ib (nI q) 240) (f_X8_releaseWindows_12 F m (nI (cup n E pos) - nI 1) (nI (q + 1)) (sm_mi (sm_mi M 61 (nI e).toNatClampNeg (nI 0)) 60 q mN)))) _
        rw [g_ib (by omega) (by omega), g_ib (by omega) (by omega), nI_clamp (by omega)]
        refine ih (q + 1) _ (by omega) (by omega) (by omega) (fz_then (fz_then g (by omega) (by omega)) (by omega) (by omega)) (fun x hx => ?_) (fun x hx => ?_)
        · by_cases e9 : x = q
          · subst e9
            rw [mi_eq, if_neg (by omega), if_pos (by omega)]
          · rw [mi_ni e9, mi_na (by omega), b1 x hx]
            by_cases z : x < cdn n pos
            · rw [if_pos z, if_pos z]
            · rw [if_neg z, if_neg z]
              by_cases y : x < q
              · rw [if_pos y, if_pos (by omega)]
              · rw [if_neg y, if_neg (show ¬ x < q + 1 by omega)]
        · rw [mi_na (by omega)]
          by_cases e9 : x = e
          · subst e9
            rw [mi_eq]
            have : rlu κ n k E w f (cdn n pos) (q + 1) x = false := by
              rw [← Bool.not_eq_true, rlu_iff]
              rintro ⟨y, y1, y2, y3⟩
              rcases Nat.lt_trichotomy y q with z | z | z
              · exact bdw_dist (k8 q d) h1 z y3
              · omega
              · exact bdw_dist (k8 y y1) y3 z h1
            rw [this]
            rfl
          · rw [mi_ni e9, b2 x hx]
            congr 1
            rw [Bool.eq_iff_iff, rlu_iff, rlu_iff]
            constructor
            · rintro ⟨y, y1, y2, y3⟩
              refine ⟨y, y1, ?_, y3⟩
              by_cases z : y = q
              · subst z
                rw [h1] at y3
                cases y3
                exact absurd rfl e9
              · omega
            · rintro ⟨y, y1, y2, y3⟩
              exact ⟨y, y1, by omega, y3⟩
      · rw [if_neg d]
        refine okp_t rfl ?_
        refine ih (q + 1) M (by omega) (by omega) (by omega) g (fun x hx => ?_) (fun x hx => ?_)
        · rw [b1 x hx]
          by_cases z : x < cdn n pos
          · rw [if_pos z, if_pos z]
          · rw [if_neg z, if_neg z]
            by_cases y : x < q
            · rw [if_pos y, if_pos (by omega)]
            · rw [if_neg y, if_neg (by omega)]
              by_cases u : x < q + 1
              · rw [if_pos u]
              · rw [if_neg u]
        · rw [b2 x hx]
          congr 1
          rw [Bool.eq_iff_iff, rlu_iff, rlu_iff]
          constructor
          · rintro ⟨y, y1, y2, y3⟩
            exact ⟨y, y1, by omega, y3⟩
          · rintro ⟨y, y1, y2, y3⟩
            exact ⟨y, y1, by omega, y3⟩
theorem cd_cu {n E pos : Nat} (hn : 1 ≤ n) (hp : pos < E) : cdn n pos ≤ cup n E pos ∧ cup n E pos ≤ E := by
  unfold cdn cup
  split <;> omega
theorem cc_rel {F κ n k E pos f : Nat} {w : Nat → Nat} {M : sm_M} (ho : okF κ n k = true) (hE : E = (els κ n k).length) (hE1 : 1 ≤ E) (hp : pos < E) (hk : csr M κ n k E pos f w) (hf1 : cdn n pos ≤ f) (hf2 : f ≤ cup n E pos) (hF : 300 ≤ F) : okp (f_X8_releaseWindows F (nI pos) M) (fun M' => fz 60 62 M M' ∧ csr M' κ n k E pos (cdn n pos) w) := by
  have h200 := (els_ok ho).2.1
  obtain ⟨c1, c2⟩ := cd_cu (n := n) (okF_of ho).2.1 hp
  obtain ⟨b1, b2⟩ := p_bounds (F := F) ho hE hE1 hp hk
  unfold f_X8_releaseWindows
  rcases b2 with ⟨z, x, hx, b2⟩ | ⟨z, b2⟩
  · rw [b2, Option.bind_some, b1, Option.bind_some]
    cases F with
    | zero => omega
    | succ F =>
      have e0 : cdn n pos = 0 := by omega
      have e1 : f = 0 := by omega
      show okp (f_X8_releaseWindows_12b _ _ _ _ _) _
      unfold f_X8_releaseWindows_12b
      rw [e0, if_pos (show x < nI 0 from hx)]
      rw [e1] at hk
      exact okp_some ⟨fz_refl, hk⟩
  · rw [b2, Option.bind_some, b1, Option.bind_some]
    refine p_rel ho hE hp hk hf1 hf2 c2 F (cdn n pos) M (by omega) (by omega) c1 fz_refl (fun x hx => ?_) (fun e he => ?_)
    · rw [hk.2.2.2.2.2.1 x hx]
      by_cases y : x < cdn n pos
      · rw [if_pos y, if_pos (by omega)]
      · rw [if_neg y, if_neg y]
    · rw [hk.2.2.2.2.2.2.1 e he]
      congr 1
      rw [Bool.eq_iff_iff, rlu_iff, mkc_iff]
      constructor
      · rintro ⟨y, y1, y3⟩
        exact ⟨y, y1, by omega, y3⟩
      · rintro ⟨y, y1, y2, y3⟩
        exact ⟨y, y1, y3⟩
/-- another symbol at the place itself -/
theorem csr_up {κ n k E pos t : Nat} {w : Nat → Nat} {M : sm_M} (hn : 1 ≤ n) (hp : pos < E) (h : csr M κ n k E pos (cdn n pos) w) (ht : t < k) : csr (sm_mi M 59 pos (nI t)) κ n k E pos (cdn n pos) (up1 w pos t) := by
  obtain ⟨k1, k2, k3, k4, k5, k6, k7, k8⟩ := h
  refine ⟨by rw [mi_na (by omega)]; exact k1, by rw [mi_na (by omega)]; exact k2, by rw [mi_na (by omega)]; exact k3, fun i hi => ?_, fun i hi => ?_, fun q hq => ?_, fun e he => ?_, fun q hq => ?_⟩
  · unfold up1
    by_cases e : i = pos
    · subst e
      rw [mi_eq, if_pos rfl]
    · rw [mi_ni e, if_neg e]
      exact k4 i hi
  · unfold up1
    by_cases e : i = pos
    · rw [if_pos e]; exact ht
    · rw [if_neg e]; exact k5 i hi
  · rw [mi_na (by omega), k6 q hq]
    by_cases y : q < cdn n pos
    · rw [if_pos y, if_pos y, shp_up (by unfold cdn at y; omega) (by omega)]
    · rw [if_neg y, if_neg y]
  · rw [mi_na (by omega), mkc_up (Nat.le_refl _) (by omega) hn]
    exact k7 e he
  · rw [bdw_up hq (by omega) hn]
    exact k8 q hq
/-- on to the next place -/
theorem csr_next {κ n k E pos : Nat} {w : Nat → Nat} {M : sm_M} (hn : 1 ≤ n) (hk : 1 ≤ k) (hp : pos + 1 < E) (h : csr M κ n k E pos (cup n E pos) w) : csr (sm_mi M 59 (pos + 1) (nI 0)) κ n k E (pos + 1) (cdn n (pos + 1)) (up1 w (pos + 1) 0) := by
  have ec : cup n E pos = cdn n (pos + 1) := by
    unfold cup cdn
    rw [if_neg (by omega)]
  rw [ec] at h
  obtain ⟨k1, k2, k3, k4, k5, k6, k7, k8⟩ := h
  refine ⟨by rw [mi_na (by omega)]; exact k1, by rw [mi_na (by omega)]; exact k2, by rw [mi_na (by omega)]; exact k3, fun i hi => ?_, fun i hi => ?_, fun q hq => ?_, fun e he => ?_, fun q hq => ?_⟩
  · unfold up1
    by_cases e : i = pos + 1
    · subst e
      rw [mi_eq, if_pos rfl]
    · rw [mi_ni e, if_neg e]
      exact k4 i (by omega)
  · unfold up1
    by_cases e : i = pos + 1
    · rw [if_pos e]; exact hk
    · rw [if_neg e]; exact k5 i (by omega)
  · rw [mi_na (by omega), k6 q hq]
    by_cases y : q < cdn n (pos + 1)
    · rw [if_pos y, if_pos y, shp_up (by unfold cdn at y; omega) (by omega)]
    · rw [if_neg y, if_neg y]
  · rw [mi_na (by omega), mkc_up (Nat.le_refl _) (by omega) hn]
    exact k7 e he
  · rw [bdw_up hq (by omega) hn]
    exact k8 q hq
theorem p_gob {F κ n k E : Nat} {w : Nat → Nat} {M0 : sm_M} (ho : okF κ n k = true) (hE : E = (els κ n k).length) (hE1 : 1 ≤ E) (hkk : M0.1 1 3 = nI k) (hF : 300 ≤ F) : ∀ (m p f : Nat) (M : sm_M), p + 1 < m → p < E → cdn n p ≤ f → f ≤ cup n E p → csr M κ n k E p f w → fz 57 62 M0 M → okp (f_X8_goBack_2 F m (nI p) M) (fun r => fz 57 62 M0 r.2 ∧ (bk k w (p + 1) = 0 → r.1 = mN) ∧ ∀ p', bk k w (p + 1) = p' + 1 → p' < E ∧ r.1 = nI p' ∧ csr r.2 κ n k E p' (cdn n p') (up1 w p' (w p' + 1))) := by
  obtain ⟨o1, o2, o3, o4, o5, -, -⟩ := okF_of ho
  have h200 := (els_ok ho).2.1
  intro m
  induction m with
  | zero => intro p f M a; omega
  | succ m ih =>
    intro p f M a1 a2 a3 a4 hk g
    show okp (f_X8_goBack_2b F (f_X8_goBack_2 F m) _ _) _
    unfold f_X8_goBack_2b
    rw [if_neg (nI_pos (by omega))]
    refine okp_bind (cc_rel ho hE hE1 a2 hk a3 a4 hF) ?_
    rintro M1 ⟨g1, hk1⟩
    have g2 : fz 57 62 M0 M1 := fz_tr g g1 (by omega) (by omega) (by omega) (by omega)
    have hw := hk1.2.2.2.2.1 p (Nat.le_refl _)
    rw [g_ib (by omega) (by omega), g_ib (by omega) (by omega), g_ib (by omega) (by omega), nI_clamp (by omega), fz_1 g2 (a := 1) (by omega), hkk, hk1.2.2.2.1 p (Nat.le_refl _), nl_1, nI_add]
    have eb : bk k w (p + 1) = if w p + 1 < k then p + 1 else bk k w p := rfl
    by_cases c : w p + 1 < k
    · rw [if_neg (nI_ge c (by omega)), eb, if_pos c]
      refine okp_some ⟨fz_then g2 (by omega) (by omega), fun h => by omega, fun p' h => ?_⟩
      have : p' = p := by omega
      subst this
      exact ⟨a2, rfl, csr_up o2 a2 hk1 c⟩
    · rw [if_pos (nI_le (by omega) (by omega)), eb, if_neg c]
      cases p with
      | zero =>
        show okp (f_X8_goBack_2 F m (nI 0 + (-nI 1)) M1) _
        cases m with
        | zero => omega
        | succ m =>
          show okp (f_X8_goBack_2b F (f_X8_goBack_2 F m) _ _) _
          unfold f_X8_goBack_2b
          rw [if_pos (by decide)]
          exact okp_some ⟨g2, fun _ => rfl, fun p' h => by cases h⟩
      | succ p =>
        have e1 : nI (p + 1) + (-nI 1) = nI p := pk_m1 p
        rw [e1]
        refine ih p (cdn n (p + 1)) M1 (by omega) (by omega) (by unfold cdn; omega) (by unfold cdn cup; rw [if_neg (by omega)]; omega) ?_ g2
        obtain ⟨k1, k2, k3, k4, k5, k6, k7, k8⟩ := hk1
        exact ⟨k1, k2, k3, fun i hi => k4 i (by omega), fun i hi => k5 i (by omega), k6, k7, k8⟩
def sok (κ n k E : Nat) (x : Int32) (M : sm_M) (t : Nat × Nat × (Nat → Nat)) : Prop := (t.1 = 0 → x = nI t.2.1 ∧ rowp M 58 E t.2.2 ∧ ∀ i, i < E → t.2.2 i < k) ∧ (t.1 = 1 → x = mN) ∧ (t.1 = 2 → x = -2)
theorem p_run {F κ n k E lim : Nat} {M0 : sm_M} (ho : okF κ n k = true) (hE : E = (els κ n k).length) (hE1 : 1 ≤ E) (hf : famp M0 κ n k) (hF : 300 ≤ F) (hlim : lim ≤ 30000) : ∀ (m r c pos : Nat) (w : Nat → Nat) (M : sm_M), c + r = lim → r < m → pos < E → csr M κ n k E pos (cdn n pos) w → fz 57 62 M0 M → okp (f_X8_run_10 F m (nI lim) (nI pos) (nI (c + 1)) M) (fun x => fz 57 62 M0 x.2 ∧ sok κ n k E x.1 x.2 (sr κ n k E r c pos w)) := by
  obtain ⟨o1, o2, o3, o4, o5, -, -⟩ := okF_of ho
  have h200 := (els_ok ho).2.1
  intro m
  induction m with
  | zero => intro r c pos w M a b; omega
  | succ m ih =>
    intro r c pos w M a1 a2 a3 hk g
    show okp (f_X8_run_10b F (f_X8_run_10 F m) _ _ _ _) _
    unfold f_X8_run_10b f_X8_run_40 f_X8_run_68
    cases r with
    | zero =>
      rw [if_pos (nI_lt (by omega) (by omega))]
      exact okp_some ⟨g, ⟨fun h => absurd (show (1 : Nat) = 0 from h) (by decide), fun _ => rfl, fun h => absurd (show (1 : Nat) = 2 from h) (by decide)⟩⟩
    | succ r =>
      rw [if_neg (nI_nlt (by omega) (by omega))]
      have hf1 := famp_f hf g (by omega)
      refine okp_bind (cc_clm ho hE hE1 a3 hf1 hF hk) ?_
      rintro ⟨x, M1⟩ ⟨g1, q1⟩
      have g2 : fz 57 62 M0 M1 := fz_tr g g1 (by omega) (by omega) (by omega) (by omega)
      rw [sr]
      rcases q1 with ⟨q1, q2, q3⟩ | ⟨q1, q2, f', q3, q4, q5⟩
      · have q1' : x = nI 1 := q1
        subst q1'
        rw [if_pos q2]
        refine okp_f (show ¬ nI 1 = (0 : Int32) by decide) ?_
        show okp (if nI pos = M1.1 57 4 then some (nI (c + 1), M1) else if nI 1 = (0 : Int32) then _ else _) _
        rw [q3.2.1]
        by_cases d : pos = E - 1
        · rw [if_pos (by rw [d]), if_pos d]
          exact okp_some ⟨g2, ⟨fun _ => ⟨rfl, ⟨q3.2.2.1, fun i hi => q3.2.2.2.1 i (by omega)⟩, fun i hi => q3.2.2.2.2.1 i (by omega)⟩, fun h => absurd (show (0 : Nat) = 1 from h) (by decide), fun h => absurd (show (0 : Nat) = 2 from h) (by decide)⟩⟩
        · rw [if_neg (fun q => d ((nI_eq (by omega) (by omega)).mp q)), if_neg d, if_neg (by decide)]
          show okp (sm_g (sm_ib (nI pos + 1) 240) (if nI pos + 1 = (-1 : Int32) then some ((-2 : Int32), (sm_mi M1 59 (nI pos + 1).toNatClampNeg (0 : Int32))) else f_X8_run_10 F m (nI lim) (nI pos + 1) (nI (c + 1) + 1) (sm_mi M1 59 (nI pos + 1).toNatClampNeg (0 : Int32)))) _
          rw [i1, i1, g_ib (by omega) (by omega), nI_clamp (by omega), nl_m1, if_neg (fun q => (mN_eq (by omega)).mp q)]
          exact ih r (c + 1) (pos + 1) (up1 w (pos + 1) 0) _ (by omega) (by omega) (by omega) (csr_next o2 o4 (by omega) q3) (fz_then g2 (by omega) (by omega))
      · have q1' : x = nI 0 := q1
        subst q1'
        rw [if_neg (show ¬ gdb κ n k E w pos = true by rw [q2]; decide)]
        refine okp_t (show nI 0 = (0 : Int32) from rfl) ?_
        refine okp_t (show nI 0 = (0 : Int32) from rfl) ?_
        refine okp_bind (p_gob ho hE hE1 hf1.2.2.1 hF F pos f' M1 (by omega) a3 q3 q4 q5 (fz_w g1 (by omega) (by omega))) ?_
        rintro ⟨y, M2⟩ ⟨g3, r1, r2⟩
        have g4 : fz 57 62 M0 M2 := fz_tr g g3 (by omega) (by omega) (by omega) (by omega)
        show okp (if y = (-1 : Int32) then some ((-2 : Int32), M2) else f_X8_run_10 F m (nI lim) y (nI (c + 1) + 1) M2) _
        rw [nl_m1]
        cases hb : bk k w (pos + 1) with
        | zero =>
          have r1' : y = mN := r1 hb
          rw [if_pos r1']
          exact okp_some ⟨g4, ⟨fun h => absurd (show (2 : Nat) = 0 from h) (by decide), fun h => absurd (show (2 : Nat) = 1 from h) (by decide), fun _ => rfl⟩⟩
        | succ p' =>
          obtain ⟨r3, r4, r5⟩ := r2 p' hb
          have r4' : y = nI p' := r4
          subst r4'
          rw [if_neg (fun q => (mN_eq (by omega)).mp q), i1]
          exact ih r (c + 1) p' (up1 w p' (w p' + 1)) M2 (by omega) (by omega) r3 r5 g4
theorem sr_bd {κ n k E : Nat} : ∀ (r c pos : Nat) (w : Nat → Nat), (sr κ n k E r c pos w).1 ≤ 2 ∧ (sr κ n k E r c pos w).2.1 ≤ c + r
  | 0, c, pos, w => ⟨by show 1 ≤ 2; omega, by show c ≤ c + 0; omega⟩
  | r + 1, c, pos, w => by
    rw [sr]
    by_cases h : gdb κ n k E w pos = true
    · rw [if_pos h]
      by_cases d : pos = E - 1
      · rw [if_pos d]
        exact ⟨by show 0 ≤ 2; omega, by show c + 1 ≤ c + (r + 1); omega⟩
      · rw [if_neg d]
        have := sr_bd (κ := κ) (n := n) (k := k) (E := E) r (c + 1) (pos + 1) (up1 w (pos + 1) 0)
        exact ⟨this.1, by omega⟩
    · rw [if_neg h]
      cases hb : bk k w (pos + 1) with
      | zero => exact ⟨by show 2 ≤ 2; omega, by show c ≤ c + (r + 1); omega⟩
      | succ p' =>
        have := sr_bd (κ := κ) (n := n) (k := k) (E := E) r (c + 1) p' (up1 w p' (w p' + 1))
        exact ⟨this.1, by show (sr κ n k E r (c + 1) p' (up1 w p' (w p' + 1))).2.1 ≤ _; omega⟩
theorem fam_pos0 : famAll (fun κ n k => !(els κ n k).isEmpty) = true := by decide +kernel
theorem els_pos {κ n k : Nat} (ho : okF κ n k = true) : 1 ≤ (els κ n k).length := by
  have := fam_of fam_pos0 ho
  cases h : els κ n k with
  | nil => rw [h] at this; cases this
  | cons a l => simp
theorem cc_search {F κ n k lim : Nat} {M : sm_M} (ho : okF κ n k = true) (hf : famp M κ n k) (hF : 300 ≤ F) (hlim : lim ≤ 30000) (hF2 : lim < F) : okp (f_X8_run F (nI lim) M) (fun x => fz 57 62 M x.2 ∧ sok κ n k (els κ n k).length x.1 x.2 (sr κ n k (els κ n k).length lim 0 0 (fun _ => 0))) := by
  obtain ⟨o1, o2, o3, o4, o5, -, -⟩ := okF_of ho
  have h200 := (els_ok ho).2.1
  have hE1 := els_pos ho
  have hE2 := hf.2.2.2.1
  generalize hE : (els κ n k).length = E at *
  unfold f_X8_run f_X8_begin
  simp only [mi_eq, mi_na (show (2 : Nat) ≠ 57 by omega), hE2, hf.2.1, c0, nl_1, pk_sub hE1]
  generalize hM9 : sm_mi (sm_mi (sm_mi (sm_mi M 57 3 (nI n)) 58 1 (nI E)) 57 4 (nI (E - 1))) 59 0 (0 : Int32) = M9
  have g9 : fz 57 60 M M9 := by
    rw [← hM9]
    exact fz_then (fz_then (fz_then (fz_mi (by omega) (by omega)) (by omega) (by omega)) (by omega) (by omega)) (by omega) (by omega)
  have e1 : M9.1 57 3 = nI n ∧ M9.1 57 4 = nI (E - 1) ∧ M9.1 58 1 = nI E ∧ M9.1 59 0 = nI 0 := by
    rw [← hM9]
    refine ⟨?_, ?_, ?_, ?_⟩
    · rw [mi_na (by omega), mi_ni (by omega), mi_na (by omega), mi_eq]
    · rw [mi_na (by omega), mi_eq]
    · rw [mi_na (by omega), mi_na (by omega), mi_eq]
    · rw [mi_eq]
      rfl
  have hb : okp ((f_J7_fill_53178 F 60 240 (-1 : Int32) M9).bind fun q1 => f_X8_begin_55 F F (0 : Int32) q1) (fun M' => fz 60 62 M9 M' ∧ (∀ q, q < 240 → M'.1 60 q = mN) ∧ ∀ e, e < E → M'.1 61 e = nI 0) := by
    refine okp_bind (p_fill (by omega) (by omega)) ?_
    rintro M1 ⟨q1, g1⟩
    have key : ∀ (m i : Nat) (M2 : sm_M), E < m + i → i ≤ E → fz 61 62 M1 M2 → (∀ e, e < i → M2.1 61 e = nI 0) → okp (f_X8_begin_55 F m (nI i) M2) (fun M' => fz 60 62 M9 M' ∧ (∀ q, q < 240 → M'.1 60 q = mN) ∧ ∀ e, e < E → M'.1 61 e = nI 0) := by
      intro m
      induction m with
      | zero => intro i M a b; omega
      | succ m ih =>
        intro i M2 a1 a2 g b1
        show okp (f_X8_begin_55b F (f_X8_begin_55 F m) _ _) _
        unfold f_X8_begin_55b
        rw [fz_1 g (a := 58) (by omega), fz_1 g1 (a := 58) (by omega), e1.2.2.1, nl_0, vb_0, i1]
        by_cases c : E ≤ i
        · rw [if_pos (nI_le c (by omega))]
          exact okp_some ⟨fz_tr g1 g (by omega) (by omega) (by omega) (by omega), fun q hq => by rw [fz_1 g (by omega)]; exact q1 q hq, fun e he => b1 e (by omega)⟩
        · rw [if_neg (nI_ge (by omega) (by omega)), g_ib (by omega) (by omega), nI_clamp (by omega)]
          refine ih (i + 1) _ (by omega) (by omega) (fz_then g (by omega) (by omega)) (fun e he => ?_)
          by_cases q : e = i
          · subst q
            rw [mi_eq]
          · rw [mi_ni q]
            exact b1 e (by omega)
    exact key F 0 M1 (by omega) (by omega) fz_refl (fun e he => by omega)
  refine okp_bind hb ?_
  rintro M1 ⟨g1, q1, q2⟩
  have g2 : fz 57 62 M M1 := fz_tr g9 g1 (by omega) (by omega) (by omega) (by omega)
  have e0 : cdn n 0 = 0 := by unfold cdn; omega
  refine p_run (M0 := M) (lim := lim) ho hE.symm hE1 hf hF hlim F lim 0 0 (fun _ => 0) M1 (by omega) hF2 (by omega) ?_ g2
  rw [e0]
  refine ⟨by rw [fz_1 g1 (by omega)]; exact e1.1, by rw [fz_1 g1 (by omega)]; exact e1.2.1, by rw [fz_1 g1 (by omega)]; exact e1.2.2.1, fun i hi => ?_, fun i hi => by show 0 < k; omega, fun q hq => ?_, fun e he => ?_, fun q hq => by omega⟩
  · have : i = 0 := by omega
    subst this
    rw [fz_1 g1 (by omega)]
    exact e1.2.2.2
  · rw [q1 q hq, if_neg (by omega)]
  · rw [q2 e he]
    rfl
