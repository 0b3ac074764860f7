/-! ===== the class's graph, built; setFamily ===== -/
theorem vts_pos {κ n k : Nat} (ho : okF κ n k = true) (h3 : κ ≠ 3) : 1 ≤ (vts κ n k).length := by
  have := (g_lt ho h3 (els_pos ho)).1
  omega
theorem cc_circ {F m V : Nat} {E T : Nat → Nat} {M : sm_M} (hm : m ≤ 200) (hV : V ≤ 199) (hV1 : 1 ≤ V) (hfan : fanp M 9 E m V) (hT : ∀ e, e < m → M.1 14 e = nI (T e) ∧ T e < V) (h10 : M.1 5 10 = nI m) (hF : 500 < F) : okp (f_X4_buildCircuit F M) (fun M' => M'.1 5 11 = nI (if (cirun E T m (2 * m + 1) (fun _ => false) [(0, 0)] []).length = m then 1 else 0) ∧ (∀ i x, (cirun E T m (2 * m + 1) (fun _ => false) [(0, 0)] [])[i]? = some x → M'.1 17 (m - (cirun E T m (2 * m + 1) (fun _ => false) [(0, 0)] []).length + i) = nI x) ∧ bfr M M') := by
  unfold f_X4_buildCircuit
  rw [g_t (by decide)]
  have e200 : (200 : Int32).toNatClampNeg = 200 := by decide
  rw [c0, e200]
  have g0 : bfr M (sm_mi (sm_mi (sm_mc M 12 20 0 0 200) 18 0 (0 : Int32)) 19 0 (-1 : Int32)) := by
    refine bfr_mi (bfr_mi ⟨fun a j h1 h2 => ?_, rfl⟩ (by omega)) (by omega)
    rw [mc_na (by omega)]
  rw [g0.1 5 10 (by omega) (by omega), h10]
  refine p_bc44 (F := F) (T := T) hm hV hfan hT h10 F (2 * m + 1) 0 (fun _ => false) [(0, 0)] [] _ (by omega) (by omega) g0 ⟨fun _ _ _ _ _ h => (by cases h), fun i v b hi => ?_, ?_, Nat.zero_le _, fun i v b hi => ?_, fun i x hi => (by simp at hi)⟩ ⟨fun i v b hi => ?_, fun v hv => ?_, fun i x hi => (by simp at hi)⟩
  · cases i with
    | zero =>
      simp at hi
      simp
      omega
    | succ i => simp at hi
  · simp
  · cases i with
    | zero =>
      simp at hi
      omega
    | succ i => simp at hi
  · cases i with
    | zero =>
      simp at hi
      rw [← hi.1, ← hi.2]
      refine ⟨?_, ?_⟩
      · show (sm_mi (sm_mi (sm_mc M 12 20 0 0 200) 18 0 (0 : Int32)) 19 0 (-1 : Int32)).1 18 0 = _
        rw [mi_na (by omega), mi_eq]
        rfl
      · show (sm_mi (sm_mi (sm_mc M 12 20 0 0 200) 18 0 (0 : Int32)) 19 0 (-1 : Int32)).1 19 0 = _
        rw [mi_eq]
        rfl
    | succ i => simp at hi
  · rw [mi_na (by omega), mi_na (by omega), mc_in (by omega), hfan.2.1 v (by omega)]
    have : cuc E (fun _ => false) v m = 0 := by
      unfold cuc
      rw [fb_ct_zero]
      intro k _
      simp
    rw [this, Nat.add_zero]
    rfl
theorem cc_build {F κ n k : Nat} {M : sm_M} (ho : okF κ n k = true) (hf : famp M κ n k) (hF : 500 < F) : okp (f_X4_build F M) (fun M' => CF M' κ n k ∧ fz 5 24 M M') := by
  obtain ⟨o1, o2, o3, o4, o5, -, -⟩ := okF_of ho
  have h200 := (els_ok ho).2.1
  unfold f_X4_build
  rw [hf.1, hf.2.1]
  by_cases k3 : κ = 3
  · rw [if_pos (by rw [k3]; rfl)]
    exact okp_some ⟨⟨hf, fun h => absurd k3 h⟩, fz_refl⟩
  · have v120 := (vts_ok ho k3).2.1
    have v1 := vts_pos ho k3
    rw [if_neg (show ¬ nI κ = (3 : Int32) from fun q => k3 ((nI_eq (b := 3) (by omega) (by omega)).mp q)), nl_1, pk_sub o2]
    refine okp_bind (cc_codes (a1 := 6) (L := n - 1) hf.1 hf.2.2.1 o1 (kk_le ho).2 (by omega) (by omega) (fun f hf => by have := fam_lenV ho k3 hf; omega)) ?_
    rintro M1 ⟨q1, g1⟩
    have f1 : famp M1 κ n k := famp_f hf g1 (by omega)
    rw [f1.2.2.2.1]
    have g2 : fz 5 9 M (sm_mi M1 5 10 (nI (els κ n k).length)) := fz_then (fz_w g1 (by omega) (by omega)) (by omega) (by omega)
    have f2 : famp (sm_mi M1 5 10 (nI (els κ n k).length)) κ n k := famp_f hf g2 (by omega)
    refine p_ends (M0 := sm_mi M1 5 10 (nI (els κ n k).length)) ho k3 (by omega) f2 (codp_c q1 (by rw [mi_na (by omega)]) (mi_na (by omega))) (mi_eq _ _ _ _) ?_ F 0 _ (by omega) (by omega) (fun a _ _ => ⟨rfl, rfl⟩) (fun x hx => by omega)
    intro M2 g3 b3
    have gl : ∀ e, e < (els κ n k).length → at0 (gF κ n k) e < (vts κ n k).length ∧ at0 (gT κ n k) e < (vts κ n k).length := fun e he => g_lt ho k3 he
    refine okp_bind (cc_group (a := 9) (E := at0 (gF κ n k)) h200 (by omega) (fun e he => (gl e he).1) (fun e he => (b3 e he).1) (by omega)) ?_
    rintro M3 ⟨q3, g4⟩
    have e5 : M3.1 5 10 = nI (els κ n k).length := by rw [fz_1 g4 (by omega), (g3 5 (by omega) (by omega)).1, mi_eq]
    have hv3 : codp M3 6 (vts κ n k) := by
      refine codp_c q1 ?_ ?_
      · rw [fz_1 g4 (by omega), (g3 6 (by omega) (by omega)).1, mi_na (by omega)]
      · rw [fz_1 g4 (by omega), (g3 7 (by omega) (by omega)).1, mi_na (by omega)]
    rw [e5, hv3.1]
    refine okp_bind (cc_group (a := 13) (E := at0 (gT κ n k)) h200 (by omega) (fun e he => (gl e he).2) (fun e he => by rw [fz_1 g4 (by omega)]; exact (b3 e he).2) (by omega)) ?_
    rintro M4 ⟨q4, g5⟩
    have q3' : fanp M4 9 (at0 (gF κ n k)) (els κ n k).length (vts κ n k).length := fanp_c q3 (fun x h1 h2 => fz_1 g5 (by omega))
    have e54 : M4.1 5 10 = nI (els κ n k).length := by rw [fz_1 g5 (by omega)]; exact e5
    refine okp_bind (cc_circ (T := at0 (gT κ n k)) h200 (by omega) v1 q3' (fun e he => ⟨q4.1 e he, (gl e he).2⟩) e54 hF) ?_
    rintro M5 ⟨r1, r2, g6⟩
    have hz : fz 5 24 M M5 := by
      intro a ha
      have x1 := g2 a (by omega)
      have x2 := g3 a (by omega) (by omega)
      have x3 := g4 a (by omega)
      have x4 := g5 a (by omega)
      refine ⟨?_, ?_⟩
      · have : M5.1 a = M4.1 a := funext fun j => g6.1 a j (by omega) (by omega)
        rw [this, x4.1, x3.1, x2.1, x1.1]
      · rw [g6.2, x4.2, x3.2, x2.2, x1.2]
    have row6 : ∀ a, a ≠ 5 → ¬ (17 ≤ a ∧ a ≤ 20) → M5.1 a = M4.1 a := fun a h1 h2 => funext fun j => g6.1 a j (by omega) h2
    refine okp_some ⟨⟨famp_f hf hz (by omega), fun _ => ⟨?_, ?_, ?_, ?_, r1, fun hl i x hi => ?_⟩⟩, hz⟩
    · refine codp_c hv3 ?_ ?_
      · rw [row6 6 (by omega) (by omega), fz_1 g5 (by omega)]
      · rw [row6 7 (by omega) (by omega), fz_1 g5 (by omega)]
    · exact fanp_c q3' (fun x h1 h2 => row6 x (by omega) (by omega))
    · exact fanp_c q4 (fun x h1 h2 => row6 x (by omega) (by omega))
    · rw [g6.1 5 10 (by omega) (by omega)]
      exact e54
    · have := r2 i x hi
      have e0 : (els κ n k).length - (cirun (at0 (gF κ n k)) (at0 (gT κ n k)) (els κ n k).length (2 * (els κ n k).length + 1) (fun _ => false) [(0, 0)] []).length + i = i := by
        have : (cirun (at0 (gF κ n k)) (at0 (gT κ n k)) (els κ n k).length (2 * (els κ n k).length + 1) (fun _ => false) [(0, 0)] []).length = (els κ n k).length := hl
        omega
      rw [e0] at this
      exact this
theorem cc_begin {F κ n k : Nat} {M : sm_M} (ho : okF κ n k = true) (hF : 500 < F) : okp (f_X11_beginFamily F (nI κ) (nI n) (nI k) M) (fun M' => CF M' κ n k ∧ M'.1 24 1 = nI 0 ∧ M'.1 26 2 = nI 0 ∧ M'.1 26 1 = M.1 26 1 ∧ ∀ a, (a < 1 ∨ 27 ≤ a) → M'.1 a = M.1 a) := by
  unfold f_X11_beginFamily
  refine okp_bind (cc_become ho (by omega)) ?_
  rintro M1 ⟨q1, g1⟩
  refine okp_bind (cc_build ho q1 hF) ?_
  rintro M2 ⟨q2, g2⟩
  refine okp_some ⟨CF_c q2 (fun x _ _ => by rw [mi_na (by omega), mi_na (by omega)]), ?_, mi_eq _ _ _ _, ?_, fun a ha => ?_⟩
  · rw [mi_na (by omega), mi_eq]
    rfl
  · rw [mi_ni (by omega), mi_na (by omega), fz_1 g2 (by omega), fz_1 g1 (by omega)]
  · rw [mi_na (by omega), mi_na (by omega), fz_1 g2 (by omega), fz_1 g1 (by omega)]
/-! guards of setFamily -/
def M00 : sm_M := (fun _ _ => 0, fun _ _ => 0)
theorem sz_ind {F : Nat} {M M' : sm_M} : ∀ (m : Nat) (a b c d e : Int32), f_X2_sizeOf_5 F m a b c d e M = f_X2_sizeOf_5 F m a b c d e M'
  | 0, _, _, _, _, _ => rfl
  | m + 1, a, b, c, d, e => by
    show f_X2_sizeOf_5b F (f_X2_sizeOf_5 F m) _ _ _ _ _ _ = f_X2_sizeOf_5b F (f_X2_sizeOf_5 F m) _ _ _ _ _ _
    unfold f_X2_sizeOf_5b f_X2_sizeOf_64
    simp only [sz_ind (M := M) (M' := M') m]
theorem ps_ind {F : Nat} {a b c : Int32} {M M' : sm_M} : f_X2_isPossible F a b c M = f_X2_isPossible F a b c M' := by
  unfold f_X2_isPossible f_X2_isPossible_43 f_X2_isPossible_60 f_X2_isPossible_41 f_X2_isPossible_19 f_X2_sizeOf
  rw [sz_ind (M' := M')]
theorem ps_all : ((List.range 4).all fun κ => (List.range 6).all fun n => (List.range 9).all fun k => decide (f_X2_isPossible 600 (nI κ) (nI n) (nI k) M00 = some (if okF κ n k = true then nI 1 else nI 0))) = true := by decide +kernel
theorem p_poss {κ n k : Nat} {M : sm_M} (h1 : κ < 4) (h2 : n < 6) (h3 : k < 9) : f_X2_isPossible 600 (nI κ) (nI n) (nI k) M = some (if okF κ n k = true then nI 1 else nI 0) := by
  have h := ps_all
  simp only [List.all_eq_true, List.mem_range] at h
  rw [ps_ind (M' := M00)]
  exact of_decide_eq_true (h κ h1 n h2 k h3)
theorem ct_ind {F : Nat} {M M' : sm_M} : ∀ (m : Nat) (a b c d e : Int32), f_X12_countOf_5 F m a b c d e M = f_X12_countOf_5 F m a b c d e M'
  | 0, _, _, _, _, _ => rfl
  | m + 1, a, b, c, d, e => by
    show f_X12_countOf_5b F (f_X12_countOf_5 F m) _ _ _ _ _ _ = f_X12_countOf_5b F (f_X12_countOf_5 F m) _ _ _ _ _ _
    unfold f_X12_countOf_5b f_X12_countOf_36 f_X12_countOf_53 f_X12_countOf_70
    simp only [ct_ind (M := M) (M' := M') m]
theorem ct_all : ((List.range 4).all fun κ => (List.range 6).all fun n => (List.range 9).all fun k => (Nat.beq n 0 || Nat.beq k 0 || (!Nat.beq κ 0 && Nat.blt k n)) || (match f_X12_countOf 40000 (nI κ) (nI n) (nI k) M00 with | none => false | some q => decide (q ≤ 200) == okF κ n k)) = true := by decide +kernel
theorem p_cnt {κ n k : Nat} {M : sm_M} (h1 : κ < 4) (h2 : n < 6) (h3 : k < 9) (h4 : 1 ≤ n) (h5 : 1 ≤ k) (h6 : κ = 0 ∨ n ≤ k) : ∃ q, f_X12_countOf 40000 (nI κ) (nI n) (nI k) M = some q ∧ (q ≤ 200 ↔ okF κ n k = true) := by
  have h := ct_all
  simp only [List.all_eq_true, List.mem_range] at h
  have h7 := h κ h1 n h2 k h3
  have e : f_X12_countOf 40000 (nI κ) (nI n) (nI k) M = f_X12_countOf 40000 (nI κ) (nI n) (nI k) M00 := ct_ind _ _ _ _ _ _
  rw [e]
  have e1 : (Nat.beq n 0 || Nat.beq k 0 || (!Nat.beq κ 0 && Nat.blt k n)) = false := by
    have a1 : Nat.beq n 0 = false := by
      rw [← Bool.not_eq_true]
      intro q
      have := Nat.eq_of_beq_eq_true q
      omega
    have a2 : Nat.beq k 0 = false := by
      rw [← Bool.not_eq_true]
      intro q
      have := Nat.eq_of_beq_eq_true q
      omega
    rw [a1, a2]
    rcases h6 with q | q
    · subst q
      rfl
    · have a3 : Nat.blt k n = false := by
        rw [← Bool.not_eq_true]
        intro r
        have : n ≤ k := q
        have r2 : k < n := Nat.le_of_ble_eq_true r
        omega
      rw [a3, Bool.and_false]
      rfl
  rw [e1, Bool.false_or] at h7
  cases hc : f_X12_countOf 40000 (nI κ) (nI n) (nI k) M00 with
  | none => rw [hc] at h7; cases h7
  | some q =>
    rw [hc] at h7
    refine ⟨q, rfl, ?_⟩
    simp only [beq_iff_eq] at h7
    rw [← h7]
    simp
