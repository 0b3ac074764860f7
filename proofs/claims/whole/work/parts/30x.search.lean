/-! ===== search: the reference, and both ===== -/
theorem p_mn47 {F κ n k E p : Nat} {w : Nat → Nat} {M : sm_M} (ho : okF κ n k = true) (hp : p < 240) (h : ∀ q, q ≤ p → M.1 94 q = oI (shp κ n k w E q)) : ∀ (m q : Nat), p < m + q → q ≤ p → (∀ x, x < q → shp κ n k w E x ≠ shp κ n k w E p) → f_X12_isNew_47 F m (nI p) (nI q) M = some (bI (!bdw κ n k E w p), M) := by
  intro m
  induction m with
  | zero => intro q a b; omega
  | succ m ih =>
    intro q a1 a2 a3
    show f_X12_isNew_47b F (f_X12_isNew_47 F m) _ _ _ = _
    unfold f_X12_isNew_47b f_X12_isNew_90
    rw [nl_m1, nl_0, nl_1, g_b0, g_b1, nI_add]
    by_cases c : p ≤ q
    · rw [if_pos (nI_le c (by omega)), g_ib (by omega) (by omega), nI_clamp (by omega), h p (Nat.le_refl _)]
      have e : q = p := by omega
      subst e
      cases hs : shp κ n k w E q with
      | none =>
        rw [if_pos (show oI none = mN from rfl)]
        unfold bdw
        rw [hs]
        rfl
      | some e =>
        have h2 := (shp_lt ho hs).2
        rw [if_neg (show ¬ oI (some e) = mN from fun y => (mN_eq (by omega)).mp y)]
        have : bdw κ n k E w q = false := by
          unfold bdw
          rw [hs]
          show mkc κ n k E w q e = false
          rw [← Bool.not_eq_true, mkc_iff]
          rintro ⟨x, x1, x2⟩
          exact a3 x x1 (by rw [x2, hs])
        rw [this]
        rfl
    · rw [if_neg (nI_ge (by omega) (by omega)), g_ib (by omega) (by omega), g_ib (by omega) (by omega), nI_clamp (by omega), nI_clamp (by omega), h q (by omega), h p (Nat.le_refl _)]
      by_cases d : shp κ n k w E q = shp κ n k w E p
      · rw [if_pos (by rw [d])]
        have : bdw κ n k E w p = true := by
          unfold bdw
          cases hs : shp κ n k w E p with
          | none => rfl
          | some e =>
            show mkc κ n k E w p e = true
            exact mkc_iff.mpr ⟨q, by omega, by rw [d, hs]⟩
        rw [this]
        rfl
      · rw [if_neg (fun y => d ((oI_eq (sh31 ho) (sh31 ho)).mp y))]
        refine ih (q + 1) (by omega) (by omega) (fun x hx => ?_)
        by_cases e : x = q
        · rw [e]; exact d
        · exact a3 x (by omega)
def nfz (M M' : sm_M) : Prop := ∀ a, a ≠ 92 → a ≠ 94 → M'.1 a = M.1 a ∧ M'.2 a = M.2 a
theorem nfz_tr {M M1 M2 : sm_M} (h1 : nfz M M1) (h2 : nfz M1 M2) : nfz M M2 := fun a x y => ⟨(h2 a x y).1.trans (h1 a x y).1, (h2 a x y).2.trans (h1 a x y).2⟩
theorem nfz_refl {M : sm_M} : nfz M M := fun _ _ _ => ⟨rfl, rfl⟩
theorem mfr_n {M M1 M2 : sm_M} (h : mfr PW M M1) (g : nfz M1 M2) : mfr PW M M2 := by
  refine ⟨fun a j q => ?_, ?_⟩
  · rw [(g a (fun e => q (by unfold PW; omega)) (fun e => q (by unfold PW; omega))).1]
    exact h.1 a j q
  · rw [(g 102 (by omega) (by omega)).2]
    exact h.2
theorem MF_n {M M' : sm_M} {κ n k : Nat} (h : MF M κ n k) (g : nfz M M') : MF M' κ n k := MF_c h (fun j _ _ => by rw [(g 80 (by omega) (by omega)).1]) (fun x _ _ => (g x (by omega) (by omega)).1)
theorem p_mnew {F κ n k E pos p : Nat} {w : Nat → Nat} {M0 : sm_M} (ho : okF κ n k = true) (hE : E = (els κ n k).length) (hE1 : 1 ≤ E) (hF : MF M0 κ n k) (hp : p < E) (hin : ∀ i, i < n → (p + i) % E ≤ pos) (h9 : ∀ i, i ≤ pos → M0.1 89 i = nI (w i)) (hw : ∀ i, i ≤ pos → w i < k) (h4 : ∀ q, q < p → M0.1 94 q = oI (shp κ n k w E q)) (hf : 300 ≤ F) : okp (f_X12_isNew F (nI p) M0) (fun r => r.1 = bI (!bdw κ n k E w p) ∧ (∀ q, q ≤ p → r.2.1 94 q = oI (shp κ n k w E q)) ∧ nfz M0 r.2) := by
  obtain ⟨o1, o2, o3, o4, o5, -, -⟩ := okF_of ho
  have h200 := (els_ok ho).2.1
  have key : ∀ (m i : Nat) (M : sm_M), n < m + i → i ≤ n → fz 92 93 M0 M → (∀ j, j < i → M.1 92 j = nI (cyw w E p j)) → okp (f_X12_isNew_2 F m (nI p) (nI i) M) (fun r => r.1 = bI (!bdw κ n k E w p) ∧ (∀ q, q ≤ p → r.2.1 94 q = oI (shp κ n k w E q)) ∧ nfz M0 r.2) := by
    intro m
    induction m with
    | zero => intro i M a b; omega
    | succ m ih =>
      intro i M a1 a2 g a3
      have hF' := MF_w hF (fz_w g (by omega) (by omega))
      show okp (f_X12_isNew_2b F (f_X12_isNew_2 F m) _ _ _) _
      unfold f_X12_isNew_2b
      rw [hF'.2.1, hF'.2.2.2.1, ← hE, fz_1 g (a := 89) (by omega)]
      by_cases c : n ≤ i
      · have e : i = n := by omega
        subst e
        rw [if_pos (nI_le c (by omega)), p_mshown (w := cyw w E p) ho hF' a3 (fun j hj => hw _ (hin j hj)) (by omega), Option.bind_some, g_ib (by omega) (by omega), nI_clamp (by omega)]
        have e4 : ∀ q, q ≤ p → (sm_mi M 94 p (oI (shw κ i k (cyw w E p)))).1 94 q = oI (shp κ i k w E q) := fun q hq => by
          by_cases e : q = p
          · subst e
            rw [mi_eq]
            rfl
          · rw [mi_ni e, fz_1 g (by omega)]
            exact h4 q (by omega)
        rw [nl_0, p_mn47 ho (by omega) e4 F 0 (by omega) (by omega) (fun x hx => by omega)]
        refine okp_some ⟨rfl, e4, fun a x y => ⟨?_, ?_⟩⟩
        · rw [mi_na y, fz_1 g (by omega)]
        · rw [mi_2, fz_2 g (by omega)]
      · have hm : (p + i) % E < E := Nat.mod_lt _ (by omega)
        rw [if_neg (nI_ge (by omega) (by omega)), g_nz (by omega) (by omega), nI_add, pk_rem (by omega) (by omega) (by omega), g_ib (by omega) (by omega), g_ib (by omega) (by omega), nI_clamp (by omega), nI_clamp (by omega), h9 _ (hin i (by omega)), i1]
        refine ih (i + 1) _ (by omega) (by omega) (fz_then g (by omega) (by omega)) (fun j hj => ?_)
        by_cases e : j = i
        · subst e
          rw [mi_eq]
          rfl
        · rw [mi_ni e]
          exact a3 j (by omega)
  exact key F 0 M0 (by omega) (by omega) fz_refl (fun j hj => by omega)
def gpo (κ n k E pos : Nat) (w : Nat → Nat) (M0 : sm_M) (r : Int32 × sm_M) : Prop := r.1 = bI (gdb κ n k E w pos) ∧ (gdb κ n k E w pos = true → ∀ q, q < cup n E pos → r.2.1 94 q = oI (shp κ n k w E q)) ∧ (∀ q, q < cdn n pos → r.2.1 94 q = oI (shp κ n k w E q)) ∧ nfz M0 r.2
theorem g_bI {α : Type} {b : Bool} {k : Option α} : sm_g (sm_nar .boolean (bI b)) k = k := by
  cases b
  · exact g_b0
  · exact g_b1
theorem gdb_bad {κ n k E pos p : Nat} {w : Nat → Nat} (h1 : cdn n pos ≤ p) (h2 : p < cup n E pos) (hb : bdw κ n k E w p = true) : gdb κ n k E w pos = false := by
  rw [← Bool.not_eq_true, gdb_iff]
  intro q
  rw [q p h1 h2] at hb
  cases hb
theorem p_mg54 {F κ n k E pos : Nat} {w : Nat → Nat} {M0 : sm_M} (ho : okF κ n k = true) (hE : E = (els κ n k).length) (hE1 : 1 ≤ E) (hF : MF M0 κ n k) (hpos : pos = E - 1) (h9 : ∀ i, i ≤ pos → M0.1 89 i = nI (w i)) (hw : ∀ i, i ≤ pos → w i < k) (hf : 300 ≤ F) : ∀ (m f : Nat) (M : sm_M), E + 1 < m + f → cdn n pos ≤ f → f ≤ E → nfz M0 M → (∀ q, cdn n pos ≤ q → q < f → bdw κ n k E w q = false) → (∀ q, q < f → M.1 94 q = oI (shp κ n k w E q)) → okp (f_X12_isGood_54 F m (nI pos) (nI 1) (nI f) M) (gpo κ n k E pos w M0) := by
  obtain ⟨o1, o2, o3, o4, o5, -, -⟩ := okF_of ho
  have h200 := (els_ok ho).2.1
  have hcu : cup n E pos = E := by unfold cup; rw [if_pos hpos]
  intro m
  induction m with
  | zero => intro f M a b; omega
  | succ m ih =>
    intro f M a1 a2 a3 g b1 b2
    show okp (f_X12_isGood_54b F (f_X12_isGood_54 F m) _ _ _ _) _
    unfold f_X12_isGood_54b f_X12_isGood_75
    by_cases c : E ≤ f
    · have e : f = E := by omega
      subst e
      rw [if_pos (nI_lt (by omega) (by omega)), g_b1]
      have hg : gdb κ n k f w pos = true := gdb_iff.mpr (fun p x y => b1 p x (by omega))
      refine okp_some ⟨?_, fun _ q hq => b2 q (by omega), fun q hq => b2 q (by omega), g⟩
      rw [hg]
      rfl
    · rw [if_neg (nI_nlt (by omega) (by omega)), if_neg (by decide), i1]
      have g9 := (g 89 (by omega) (by omega)).1
      refine okp_bind (p_mnew (pos := pos) ho hE hE1 (MF_n hF g) (by omega) (fun i _ => by have := Nat.mod_lt (f + i) (show 0 < E by omega); omega) (fun i hi => by rw [g9]; exact h9 i hi) hw b2 hf) ?_
      rintro ⟨x, M1⟩ ⟨q1, q2, g1⟩
      have q1' : x = bI (!bdw κ n k E w f) := q1
      subst q1'
      have g2 := nfz_tr g g1
      cases hb : bdw κ n k E w f with
      | false =>
        show okp (f_X12_isGood_54 F m (nI pos) (nI 1) (nI (f + 1)) M1) _
        refine ih (f + 1) M1 (by omega) (by omega) (by omega) g2 (fun q x y => ?_) (fun q hq => q2 q (by omega))
        by_cases e : q = f
        · rw [e]; exact hb
        · exact b1 q x (by omega)
      | true =>
        show okp (f_X12_isGood_54 F m (nI pos) (nI 0) (nI (f + 1)) M1) _
        have hg := gdb_bad (pos := pos) a2 (by rw [hcu]; omega) hb
        cases m with
        | zero => omega
        | succ m =>
          show okp (f_X12_isGood_54b F (f_X12_isGood_54 F m) _ _ _ _) _
          unfold f_X12_isGood_54b f_X12_isGood_75
          rw [if_pos (c := nI 0 = 0) (by decide), ite_self, g_b0]
          refine okp_some ⟨?_, fun h => ?_, fun q hq => q2 q (by omega), g2⟩
          · rw [hg]
            rfl
          · rw [hg] at h
            cases h
theorem p_mg30 {F κ n k E pos : Nat} {w : Nat → Nat} {M0 M : sm_M} (ho : okF κ n k = true) (hE : E = (els κ n k).length) (hE1 : 1 ≤ E) (hF : MF M0 κ n k) (hp : pos < E) (h9 : ∀ i, i ≤ pos → M0.1 89 i = nI (w i)) (hw : ∀ i, i ≤ pos → w i < k) (hf : 300 ≤ F) (hg : nfz M0 M) (b1 : ∀ q, cdn n pos ≤ q → q < pos + 2 - n → bdw κ n k E w q = false) (b2 : ∀ q, q < pos + 2 - n → M.1 94 q = oI (shp κ n k w E q)) : okp (f_X12_isGood_30 F (nI pos) (nI 1) M) (gpo κ n k E pos w M0) := by
  obtain ⟨o1, o2, o3, o4, o5, -, -⟩ := okF_of ho
  have h200 := (els_ok ho).2.1
  have hF' := MF_n hF hg
  have e2 : (nI pos - nI n) + nI 2 = nI (pos + 2) - nI n := by
    rw [← nI_add, Int32.sub_eq_add_neg, Int32.sub_eq_add_neg, Int32.add_assoc, Int32.add_comm (-(nI n)) (nI 2), ← Int32.add_assoc]
  have e3 : (if (0 : Int32) < nI (pos + 2) - nI n then nI (pos + 2) - nI n else (0 : Int32)) = nI (pos + 2 - n) := by
    by_cases c : n < pos + 2
    · rw [pk_sub (by omega), if_pos (show (0 : Int32) < nI (pos + 2 - n) from nI_lt (a := 0) (by omega) (by omega))]
    · have z : pos + 2 - n = 0 := by omega
      rw [z, if_neg]
      · rfl
      · rw [fa_lt, pk_sub_toInt (by omega) (by omega)]
        have : (0 : Int32).toInt = 0 := rfl
        omega
  unfold f_X12_isGood_30 f_X12_isGood_75
  rw [hF'.2.1, hF'.2.2.2.1, ← hE, nl_1, nl_2, e2, e3, pk_sub hE1]
  by_cases c : pos = E - 1
  · rw [if_pos (by rw [c])]
    have h2 : pos + 2 - n ≤ E := by omega
    exact p_mg54 ho hE hE1 hF c h9 hw hf F (pos + 2 - n) M (by omega) (by unfold cdn; omega) h2 hg b1 b2
  · rw [if_neg (fun q => c ((nI_eq (by omega) (by omega)).mp q)), g_b1]
    have hcu : cup n E pos = pos + 2 - n := by unfold cup; rw [if_neg c]
    have hg2 : gdb κ n k E w pos = true := gdb_iff.mpr (fun p x y => b1 p x (by omega))
    refine okp_some ⟨?_, fun _ q hq => b2 q (by omega), fun q hq => b2 q (by unfold cdn at hq; omega), hg⟩
    rw [hg2]
    rfl
theorem p_mgood {F κ n k E pos : Nat} {w : Nat → Nat} {M0 : sm_M} (ho : okF κ n k = true) (hE : E = (els κ n k).length) (hE1 : 1 ≤ E) (hF : MF M0 κ n k) (hp : pos < E) (h9 : ∀ i, i ≤ pos → M0.1 89 i = nI (w i)) (hw : ∀ i, i ≤ pos → w i < k) (h4 : ∀ q, q < cdn n pos → M0.1 94 q = oI (shp κ n k w E q)) (hf : 300 ≤ F) : okp (f_X12_isGood F (nI pos) M0) (gpo κ n k E pos w M0) := by
  obtain ⟨o1, o2, o3, o4, o5, -, -⟩ := okF_of ho
  have h200 := (els_ok ho).2.1
  unfold f_X12_isGood f_X12_isGood_25
  rw [hF.2.1, nl_1, hi_eq, pk_sub (by omega)]
  by_cases c : pos < n - 1
  · rw [if_pos (nI_lt c (by omega))]
    exact p_mg30 ho hE hE1 hF hp h9 hw hf nfz_refl (fun q x y => by omega) (fun q hq => by omega)
  · rw [if_neg (nI_nlt (by omega) (by omega)), pk_sub (by omega)]
    have hin : ∀ i, i < n → (pos + 1 - n + i) % E ≤ pos := fun i hi => by
      rw [Nat.mod_eq_of_lt (by omega)]
      omega
    refine okp_bind (p_mnew (pos := pos) ho hE hE1 hF (by omega) hin h9 hw h4 hf) ?_
    rintro ⟨x, M1⟩ ⟨q1, q2, g1⟩
    have q1' : x = bI (!bdw κ n k E w (pos + 1 - n)) := q1
    subst q1'
    cases hb : bdw κ n k E w (pos + 1 - n) with
    | false =>
      refine okp_f (show ¬ bI (!false) = (0 : Int32) by decide) ?_
      refine p_mg30 ho hE hE1 hF hp h9 hw hf g1 (fun q x y => ?_) (fun q hq => q2 q (by omega))
      have : q = pos + 1 - n := by unfold cdn at x; omega
      rw [this]
      exact hb
    | true =>
      refine okp_t (show bI (!true) = (0 : Int32) by decide) ?_
      have hcu : pos + 1 - n < cup n E pos := by unfold cup; split <;> omega
      have hg := gdb_bad (pos := pos) (show cdn n pos ≤ pos + 1 - n by unfold cdn; omega) hcu hb
      have hF' := MF_n hF g1
      have fin : okp (some (nI 0, M1)) (gpo κ n k E pos w M0) := by
        refine okp_some ⟨?_, fun h => ?_, fun q hq => q2 q (by unfold cdn at hq; omega), g1⟩
        · rw [hg]
          rfl
        · rw [hg] at h
          cases h
      show okp (f_X12_isGood_30 F (nI pos) (0 : Int32) M1) _
      unfold f_X12_isGood_30 f_X12_isGood_75
      rw [hF'.2.2.2.1, ← hE, nl_0, g_b0]
      by_cases d : nI pos = nI E - 1
      · rw [if_pos d]
        cases F with
        | zero => omega
        | succ F =>
          show okp (f_X12_isGood_54b _ _ _ _ _ _) _
          unfold f_X12_isGood_54b f_X12_isGood_75
          rw [if_pos (c := nI 0 = 0) (by decide), ite_self, g_b0]
          exact fin
      · rw [if_neg d]
        exact fin
