/-! ===== useCircuit ===== -/
theorem ord_big {n k q : Nat} (hc : c45 n q = true) (hk : k ≤ 8) (hk0 : 0 < k) : (∃ i, i < (els 1 n n).length ∧ k ≤ (rn (cP n) (els 1 n n).length n (els 1 n n).length 0 (fun _ => 0, false)).1 i) ∧ ufp (cP n) (els 1 n n).length n k 1 (fun _ => 0) = some none := by
  unfold c45 at hc
  rw [frN_eq] at hc
  simp only [Bool.and_eq_true, decide_eq_true_eq, List.any_eq_true, List.mem_range] at hc
  obtain ⟨h1, i, h2, h3⟩ := hc
  have e : (els 1 n n).length = q + ((els 1 n n).length - q) := by omega
  have h4 : k ≤ (rn (cP n) (els 1 n n).length n (els 1 n n).length 0 (fun _ => 0, false)).1 i := by
    have h5 : (rn (cP n) (els 1 n n).length n q 0 (fun _ => 0, false)).1 i ≤ (rn (cP n) (els 1 n n).length n (q + ((els 1 n n).length - q)) 0 (fun _ => 0, false)).1 i := by
      rw [rn_add]
      exact rn_mono _ _ _ i
    rw [← e] at h5
    omega
  refine ⟨⟨i, h2, h4⟩, ?_⟩
  rw [ufp, if_neg (fun q => by have := (mxw_lt hk0 _).mp q i h2; omega)]
theorem ord_fam {n k : Nat} (ho : okF 1 n k = true) : ∃ z r, ufp (cP n) (els 1 n n).length n k z (fun _ => 0) = some r ∧ z ≤ 4 ∧ z ≤ (els 1 n n).length + 1 ∧ ((∃ u w, r = some u ∧ (∀ i, i < (els 1 n n).length → u i = w i ∧ w i < k) ∧ orp (cP n) (els 1 n n).length n z (fun _ => 0) = some w) ∨ (r = none ∧ ((∃ i, i < (els 1 n n).length ∧ k ≤ (rn (cP n) (els 1 n n).length n (els 1 n n).length 0 (fun _ => 0, false)).1 i) ∨ ∃ w, orp (cP n) (els 1 n n).length n z (fun _ => 0) = some w ∧ ∃ i, i < (els 1 n n).length ∧ k ≤ w i))) := by
  obtain ⟨o1, o2, o3, o4, o5, o6, -⟩ := okF_of ho
  by_cases n3 : n ≤ 3
  · have h := k_13
    rw [List.all_eq_true] at h
    have h1 := h n (List.mem_range.mpr (by omega))
    rw [List.all_eq_true] at h1
    have h2 := h1 k (List.mem_range.mpr (by omega))
    simp only [Bool.or_eq_true, decide_eq_true_eq] at h2
    have h3 := (h2.resolve_left (by omega)).resolve_left (by omega)
    unfold c13 at h3
    rw [frN_eq, Bool.and_eq_true, decide_eq_true_eq] at h3
    obtain ⟨h4, h5⟩ := h3
    have hz : rzn n ≤ 4 := by unfold rzn; split <;> (try split) <;> omega
    cases hp : orp (cP n) (els 1 n n).length n (rzn n) (fun _ => 0) with
    | none => rw [hp] at h5; cases h5
    | some w =>
      rw [hp] at h5
      simp only at h5
      cases hu : ufp (cP n) (els 1 n n).length n k (rzn n) (fun _ => 0) with
      | none => rw [hu] at h5; cases h5
      | some r =>
        rw [hu] at h5
        cases r with
        | none =>
          simp only [List.any_eq_true, List.mem_range, decide_eq_true_eq] at h5
          exact ⟨rzn n, none, hu, hz, h4, Or.inr ⟨rfl, Or.inr ⟨w, hp, h5⟩⟩⟩
        | some u =>
          simp only [List.all_eq_true, List.mem_range, Bool.and_eq_true, decide_eq_true_eq] at h5
          exact ⟨rzn n, some u, hu, hz, h4, Or.inl ⟨u, w, rfl, h5, hp⟩⟩
  · by_cases n4 : n = 4
    · subst n4
      obtain ⟨a, b⟩ := ord_big (k := k) k_4 o5 (by omega)
      exact ⟨1, none, b, by omega, by omega, Or.inr ⟨rfl, Or.inl a⟩⟩
    · have n5 : n = 5 := by omega
      subst n5
      obtain ⟨a, b⟩ := ord_big (k := k) k_5 o5 (by omega)
      exact ⟨1, none, b, by omega, by omega, Or.inr ⟨rfl, Or.inl a⟩⟩
theorem mm_useFail {M : sm_M} {κ n k l : Nat} {s : Nat → Nat} {hc : Nat} {hl : Nat → Nat} {hs : Nat → Nat → Nat} {b : Bf} {v : Sv} {w : Nat → Nat} {M0 : sm_M} (hO : Ok κ n k l s hc hl hs b v) (h0 : MA M0 κ n k l s hc hl hs b v) (k1 : κ = 1) (hB : ∀ y, w y ≤ 2 ^ 25) : ∀ (z p : Nat) (M : sm_M), (els κ n k).length < z + p → p ≤ (els κ n k).length → fz 89 90 M0 M → rwp M 89 (els κ n k).length w → (∃ i, p ≤ i ∧ i < (els κ n k).length ∧ k ≤ w i) → okp (f_X12_useCircuit_55 1000 z (nI p) M) (fun r => r.2.1 80 0 = 2 ∧ mfr PR M0 r.2) := by
  obtain ⟨o1, o2, o3, o4, o5, -, -⟩ := okF_of hO.1
  have hE := (els_ok hO.1).2.1
  intro z
  induction z with
  | zero => intro p M a b; omega
  | succ z ih =>
    intro p M a1 a2 g b1 ⟨i, i1', i2', i3'⟩
    have gp : mfr PW M0 M := mfr_fz mfr_refl g (fun a j _ _ => by unfold PW; omega) (by omega)
    have h1 := MA_w h0 gp
    have hb := hB p
    show okp (f_X12_useCircuit_55b 1000 (f_X12_useCircuit_55 1000 z) _ _) _
    unfold f_X12_useCircuit_55b f_X12_useCircuit_98
    rw [h1.1.2.2.2.1, h1.1.1, if_neg (nI_ge (by omega) (by omega)), if_pos (show nI κ = (1 : Int32) by rw [k1]; rfl), g_ib (by omega) (by omega), g_ib (by omega) (by omega), g_ib (by omega) (by omega), nI_clamp (by omega), mi_eq, mi_na (by omega), h1.1.2.2.1, b1 p (by omega), i1]
    by_cases c : w p < k
    · rw [if_pos (nI_lt c (by omega))]
      refine ih (p + 1) _ (by omega) (by omega) (fz_then g (by omega) (by omega)) (fun y hy => ?_) ⟨i, ?_, i2', i3'⟩
      · by_cases q : y = p
        · subst q
          rw [mi_eq]
        · rw [mi_ni q]
          exact b1 y hy
      · by_cases q : i = p
        · rw [q] at i3'
          omega
        · omega
    · rw [if_neg (nI_nlt (by omega) (by omega)), p_fail, Option.bind_some]
      exact okp_some (mm_x (mfr_mi (mfr_w gp (fun _ _ => PW_R)) (by unfold PR; omega)))
/-- the class's row, kind 1 -/
theorem cc_up {n k z : Nat} {r : Option (Nat → Nat)} {M : sm_M} (ho : okF 1 n k = true) (hC : CF M 1 n k) (hcir : (cirL 1 n k).length = (els 1 n k).length) (hE0 : 0 < (els 1 n k).length) (hz : z ≤ 4) (hz2 : z ≤ (els 1 n k).length + 1) (hu : ufp (cP n) (els 1 n k).length n k z (fun _ => 0) = some r) : okp (f_X9_unfold 1000 M) (fun q => fz 65 67 M q.2 ∧ match r with | some w' => q.1 = nI 1 ∧ rowp q.2 65 (els 1 n k).length w' | none => q.1 = nI 0) := by
  obtain ⟨o1, o2, o3, o4, o5, -, -⟩ := okF_of ho
  have hE := (els_ok ho).2.1
  have gr := hC.2 (by decide)
  have hnn : n * n ≤ 5 * 5 := Nat.mul_le_mul o3 o3
  have h8 : (8 : Nat) ^ n ≤ 8 ^ 5 := Nat.pow_le_pow_right (by omega) o3
  unfold f_X9_unfold f_X9_unfoldPatterns
  rw [gr.2.2.2.1]
  have g6 : fz 65 66 M (sm_mi M 65 1 (nI (els 1 n k).length)) := fz_mi (by omega) (by omega)
  generalize hM6 : sm_mi M 65 1 (nI (els 1 n k).length) = M6 at g6
  have e65 : M6.1 65 1 = nI (els 1 n k).length := by rw [← hM6, mi_eq]
  rw [fz_1 g6 (show 1 < 65 ∨ 66 ≤ 1 by omega), hC.1.1]
  refine okp_t (by decide) ?_
  have main : okp ((f_J7_fill_53178 1000 66 240 (0 : Int32) M6).bind fun q1 => f_X9_unfoldPatterns_32 1000 1000 (((q1.1 65 1) * (q1.1 1 3)) + (1 : Int32)) (1 : Int32) (0 : Int32) q1) (fun q => fz 65 67 M q.2 ∧ match r with | some w' => q.1 = nI 1 ∧ rowp q.2 65 (els 1 n k).length w' | none => q.1 = nI 0) := by
    refine okp_bind (p_fill (by omega) (by omega)) ?_
    rintro M7 ⟨f1, g7⟩
    have e7 : M7.1 65 1 = nI (els 1 n k).length := by rw [fz_1 g7 (by omega)]; exact e65
    have c7 : ∀ a, a < 65 → M7.1 a = M.1 a := fun a ha => by rw [fz_1 g7 (by omega), fz_1 g6 (by omega)]
    have hk2 : (els 1 n k).length ≤ (els 1 n k).length * k := Nat.le_mul_of_pos_right _ (by omega)
    have hk3 : (els 1 n k).length * k ≤ 200 * 8 := Nat.mul_le_mul hE o5
    rw [e7, c7 1 (by omega), hC.1.2.2.1, nl_1, nl_0, pk_mul, nI_add]
    have hb : z * ((els 1 n k).length * (n * n)) ≤ 4 * (200 * (5 * 5)) := Nat.mul_le_mul hz (Nat.mul_le_mul hE hnn)
    refine okp_mono (p_rd32 (M0 := M7) (C := 2 ^ 25) (P := cP n) (el := cel 1 n k) (ci := at0 (cirL 1 n k)) (by omega) (by decide) hE hE0 o3 o5 e7 (by rw [c7 1 (by omega)]; exact hC.1.2.1) (by rw [c7 1 (by omega)]; exact hC.1.2.2.1) (by omega) (fun p hp => ?_) z 1000 0 (fun _ => 0) M7 r (by omega) (by omega) fz_refl (fun y hy => f1 y (by omega)) (fun y => ?_) hu) ?_
    · obtain ⟨c1, c2, c3, c4, c5⟩ := cel_ok ho (by decide) hcir hp
      refine ⟨?_, by omega, ?_, by omega, fun a ha => rfl⟩
      · rw [c7 17 (by omega)]
        exact gr.2.2.2.2.2 hcir p _ c1
      · rw [c7 3 (by omega)]
        exact hC.1.2.2.2.2 _ _ c3
    · rw [Nat.zero_add]
      exact Nat.le_trans hb (by decide)
    · rintro q ⟨q1, q2⟩
      refine ⟨fz_tr (fz_tr (l := 65) (h := 67) g6 g7 (by omega) (by omega) (by omega) (by omega)) q1 (by omega) (by omega) (by omega) (by omega), ?_⟩
      cases r with
      | none => exact q2
      | some w' => exact ⟨q2.1, by rw [fz_1 q1 (by omega)]; exact e7, q2.2⟩
  refine okp_bind main ?_
  rintro ⟨y, M8⟩ ⟨q1, q2⟩
  cases r with
  | none =>
    have : y = nI 0 := q2
    subst this
    show okp (sm_g (sm_nar .boolean (nI 0)) (some (nI 0, M8))) _
    rw [g_b0]
    exact okp_some ⟨q1, rfl⟩
  | some w' =>
    have : y = nI 1 := q2.1
    subst this
    show okp (sm_g (sm_nar .boolean (nI 1)) (some (nI 1, M8))) _
    rw [g_b1]
    exact okp_some ⟨q1, rfl, q2.2⟩
