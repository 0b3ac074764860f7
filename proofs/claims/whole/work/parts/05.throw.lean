/-! ===== 'throw new E("text")' in the static world ===== -/
theorem sm_Zup {C n d : String} {ad : Nat → Nat} {k : Nat} {U : State} {H : Heap} (h : vx_Zq C n d (sm_ad ad k) U H) : vx_Zq C n d (sm_A ad k H.size) U H := by
  have up : ∀ (a : Nat) (cell : Cell), H[a]? = some cell → ¬ sm_ad ad k a → ¬ sm_A ad k H.size a := by
    intro a cell h1 h2 h3
    rcases h3 with h3 | h3
    · exact h2 h3
    · have := (Array.getElem?_eq_some_iff.mp h1).1
      omega
  have upZ : ∀ v, va_Z C n d v (sm_ad ad k) U H → va_Z C n d v (sm_A ad k H.size) U H := by
    rintro v ⟨cf, kf, fi, f, a, cell, h1, h2, h3, h4, h5, h6, h7, h8⟩
    exact ⟨cf, kf, fi, f, a, cell, h1, h2, h3, h4, h5, h6, h7, up a cell h5 h8⟩
  refine ⟨?_, ?_⟩
  · rcases h.1 with h1 | ⟨t, h1⟩
    · exact Or.inl (upZ _ h1)
    · exact Or.inr ⟨t, upZ _ h1⟩
  · obtain ⟨c, k9, i, f, a, cell, h1, h2, h3, h4, h5, h6, h7, h8, h9, h10⟩ := h.2
    exact ⟨c, k9, i, f, a, cell, h1, h2, h3, h4, h5, h6, h7, h8, h9, up a cell h5 h10⟩
abbrev sm_xn : List String := ["java/lang/RuntimeException", "java/lang/Exception"]
/-- a throw's words: of the class and its maker, and of the place -/
def sm_XW (own : String) (ic : Nat) (cls : String) : Prop :=
  (∀ w ∈ (vx_atS own ic cls sm_xn).filter goodWord, w ∈ lw_tbl) ∧ (∀ w ∈ (vx_atS own ic cls sm_xn).filter (fun w => !goodWord w), w ∈ Cond.castable cls cls :: sm_decls.map Cond.declares) ∧ (∀ w ∈ vx_atS own ic cls sm_xn, vx_ot w = true) ∧ Bundle.fit cls = true ∧ cls ∈ sm_casts
def sm_LT (own : String) (ik is ic : Nat) (cls text : String) : Prop :=
  Cond.classLink own ik cls ∈ sm_TB ∧ Cond.initialized cls ∈ sm_TB ∧ sm_XW own ic cls ∧ (own, is, text) ∈ sm_strs
theorem sm_LT.good {own : String} {ik is ic : Nat} {cls text : String} (L : sm_LT own ik is ic cls text) : ∀ w ∈ Cond.classLink own ik cls :: Cond.initialized cls :: vx_atS own ic cls sm_xn, vx_ot w = true := by
  intro w hw
  rcases List.mem_cons.mp hw with h | h
  · rw [h]; rfl
  · rcases List.mem_cons.mp h with h | h
    · rw [h]; rfl
    · exact L.2.2.1.2.2.1 w h
theorem sm_xfit : ∀ n ∈ sm_xn, Bundle.fit n = true := by decide +kernel
theorem sm_hat {g : sm_G} {p : Program} {l : Launch} {s : State} {m : MethodId} {args : Array Value} {meth : Method} {c : Code} {D : va_G} {ad : Nat → Nat} {cA : Nat → ClassId} (C : sm_Cx g p l s m args meth c D ad cA) {ik is ic : Nat} {cls text : String} (L : sm_LT (sm_own g) ik is ic cls text) : ∀ w ∈ vx_atS (sm_own g) ic cls sm_xn, w.before args s = true := by
  obtain ⟨hst, hx, hb, hr, hml, hown, hts, hlk, hex, hK⟩ := C
  obtain ⟨w1, w2, ⟨w3, w4, w5, w6, w8⟩, w7⟩ := L
  refine vx_hat (B := .castable cls cls :: sm_decls.map Cond.declares) (fun w hw => ?_) (fun w hw => ?_) (fun w hw => ?_)
  · exact hts w (sm_w (w3 w hw) (List.mem_filter.mp hw).2)
  · exact w4 w hw
  · rcases List.mem_cons.mp hw with h | h
    · rw [h]
      exact va_Nw.use rfl (hK.2.2.2.2.2.1 cls w8)
    · obtain ⟨y, hy1, hy2⟩ := List.mem_map.mp h
      rw [← hy2]
      exact va_Nw.use rfl (hK.2.2.2.2.2.2.1 y hy1)
theorem sm_throw {g : sm_G} {pc ik is ic : Nat} {ls : List (Option Value)} {st : List Value} {M : sm_M} {cls text : String} (L : sm_LT (sm_own g) ik is ic cls text) (d0 : decode (sm_cc g) pc = .ok (.new ik, 3)) (d3 : decode (sm_cc g) (pc + 3) = .ok (.dup, 1)) (d4 : decode (sm_cc g) (pc + 4) = .ok (.ldc is, 2)) (d6 : decode (sm_cc g) (pc + 6) = .ok (.invokespecial ic, 3)) (d9 : decode (sm_cc g) (pc + 9) = .ok (.athrow, 1))
    (hw : (st.map fun v => v.category).sum ≤ 8) (hdd : 5 < sm_d g) (ho : sm_o g = .inr cls) (hM : sm_mf g = M) : sm_J g pc ls st M := by
  intro p l e s m args below meth c D ad cA C H locs la hP hS hL
  have hat := sm_hat C L
  obtain ⟨hst, hx, hb, hr, hml, hown, hts, hlk, hex, hK⟩ := id C
  have wg := L.good
  obtain ⟨w1, w2, ⟨w3, w4, w5, w6, w8⟩, w7⟩ := L
  obtain ⟨sa, hstr⟩ := hK.2.2.2.2.1 _ w7
  have hk1 : sm_k (sm_o g) = 1 := by rw [ho]; rfl
  have h6 : ((st.map (sm_cv ad)).map fun v => v.category).sum ≤ 8 := by
    rw [List.map_map]
    simpa [Function.comp_def, sm_cat] using hw
  refine vx_throwS (names := sm_xn) hx hb hst hown w6 sm_xfit (hts _ w1) (hts _ w2) hstr hat wg (sm_Zup hK.2.2.1) (sm_Zup hK.2.2.2.1) hS (by rw [hml]; exact hL.1) d0 d3 d4 d6 d9 (fun x hx => (hex x hx).elim) ?_ ?_ ?_ ?_ hlk (fun t ht1 ht2 ht3 => ⟨ho, ?_, ?_, ?_⟩) hS.2.2 ?_ ?_
  · exact hdd
  · show _ + 82 ≤ 64 * sm_d g
    omega
  · show 0 + 1 ≤ sm_k (sm_o g)
    omega
  · show 0 + 6 ≤ 6 * sm_k (sm_o g)
    omega
  · rw [hM]
    exact hP.kept (fun k q hq => ht3 q.1 (hP k q hq).lt)
  · exact Nat.le_trans hS.1 ht2
  · intro q h1 h2
    rw [ht3 q (Nat.lt_of_lt_of_le h1 hS.1)]
    exact hS.2.1 q h1 h2
  · omega
  · omega
theorem sm_throwW {g : sm_G} {pc ik is ic : Nat} {ls : List (Option Value)} {st : List Value} {M : sm_M} {cls text : String} (L : sm_LT (sm_own g) ik is ic cls text) (d0 : decode (sm_cc g) pc = .ok (.new ik, 3)) (d3 : decode (sm_cc g) (pc + 3) = .ok (.dup, 1)) (d4 : decode (sm_cc g) (pc + 4) = .ok (.ldc_w is, 3)) (d7 : decode (sm_cc g) (pc + 7) = .ok (.invokespecial ic, 3)) (d10 : decode (sm_cc g) (pc + 10) = .ok (.athrow, 1))
    (hw : (st.map fun v => v.category).sum ≤ 8) (hdd : 5 < sm_d g) (ho : sm_o g = .inr cls) (hM : sm_mf g = M) : sm_J g pc ls st M := by
  intro p l e s m args below meth c D ad cA C H locs la hP hS hL
  have hat := sm_hat C L
  obtain ⟨hst, hx, hb, hr, hml, hown, hts, hlk, hex, hK⟩ := id C
  have wg := L.good
  obtain ⟨w1, w2, ⟨w3, w4, w5, w6, w8⟩, w7⟩ := L
  obtain ⟨sa, hstr⟩ := hK.2.2.2.2.1 _ w7
  have hk1 : sm_k (sm_o g) = 1 := by rw [ho]; rfl
  have h6 : ((st.map (sm_cv ad)).map fun v => v.category).sum ≤ 8 := by
    rw [List.map_map]
    simpa [Function.comp_def, sm_cat] using hw
  refine vx_throwSW (names := sm_xn) hx hb hst hown w6 sm_xfit (hts _ w1) (hts _ w2) hstr hat wg (sm_Zup hK.2.2.1) (sm_Zup hK.2.2.2.1) hS (by rw [hml]; exact hL.1) d0 d3 d4 d7 d10 (fun x hx => (hex x hx).elim) ?_ ?_ ?_ ?_ hlk (fun t ht1 ht2 ht3 => ⟨ho, ?_, ?_, ?_⟩) hS.2.2 ?_ ?_
  · exact hdd
  · show _ + 82 ≤ 64 * sm_d g
    omega
  · show 0 + 1 ≤ sm_k (sm_o g)
    omega
  · show 0 + 6 ≤ 6 * sm_k (sm_o g)
    omega
  · rw [hM]
    exact hP.kept (fun k q hq => ht3 q.1 (hP k q hq).lt)
  · exact Nat.le_trans hS.1 ht2
  · intro q h1 h2
    rw [ht3 q (Nat.lt_of_lt_of_le h1 hS.1)]
    exact hS.2.1 q h1 h2
  · omega
  · omega
def sm_LMmax (own : String) (i : Nat) : Prop := Cond.methodLink own i Lib.Math.max.name ∈ sm_TB ∧ Cond.static Lib.Math.max.name ∈ sm_TB ∧ Cond.initialized "java/lang/Math" ∈ sm_TB ∧ Cond.code Lib.Math.max.name Lib.Math.max.code 2 (some .int) ∈ sm_TB
theorem sm_mmax {g : sm_G} {pc q i : Nat} {ls : List (Option Value)} {st : List Value} {M : sm_M} {x y : Int32} (hd : decode (sm_cc g) pc = .ok (.invokestatic i, 3)) (hq : pc + 3 = q) (L : sm_LMmax (sm_own g) i) (hw : (st.map fun v => v.category).sum ≤ 8) (hdd : 0 < sm_d g)
    (k : sm_J g q ls (.int (if x < y then y else x) :: st) M) : sm_J g pc ls (.int y :: .int x :: st) M := by
  subst hq
  intro p l e s m args below meth c D ad cA C H locs la hP hS hL
  obtain ⟨hst, hx, hb, hr, hml, hown, hts, hlk, hex, hK⟩ := id C
  obtain ⟨w1, w2, w3, w4⟩ := L
  have h6 : ((st.map (sm_cv ad)).map fun v => v.category).sum ≤ 8 := by
    rw [List.map_map]
    simpa [Function.comp_def, sm_cat] using hw
  refine va_mmax hx hb (by rw [hml]; exact hL.1.symm) hown (hts _ w1) (hts _ w2) (hts _ w3) (hts _ w4) ?_ ?_ (Nat.zero_le _) (Nat.zero_le _) hd (k p l e s m args below meth c D ad cA C H locs la hP hS hL)
  · exact hdd
  · show _ + 13 ≤ 64 * sm_d g
    omega
def sm_LMmin (own : String) (i : Nat) : Prop := Cond.methodLink own i Lib.Math.min.name ∈ sm_TB ∧ Cond.static Lib.Math.min.name ∈ sm_TB ∧ Cond.initialized "java/lang/Math" ∈ sm_TB ∧ Cond.code Lib.Math.min.name Lib.Math.min.code 2 (some .int) ∈ sm_TB
theorem sm_mmin {g : sm_G} {pc q i : Nat} {ls : List (Option Value)} {st : List Value} {M : sm_M} {x y : Int32} (hd : decode (sm_cc g) pc = .ok (.invokestatic i, 3)) (hq : pc + 3 = q) (L : sm_LMmin (sm_own g) i) (hw : (st.map fun v => v.category).sum ≤ 8) (hdd : 0 < sm_d g)
    (k : sm_J g q ls (.int (if y < x then y else x) :: st) M) : sm_J g pc ls (.int y :: .int x :: st) M := by
  subst hq
  intro p l e s m args below meth c D ad cA C H locs la hP hS hL
  obtain ⟨hst, hx, hb, hr, hml, hown, hts, hlk, hex, hK⟩ := id C
  obtain ⟨w1, w2, w3, w4⟩ := L
  have h6 : ((st.map (sm_cv ad)).map fun v => v.category).sum ≤ 8 := by
    rw [List.map_map]
    simpa [Function.comp_def, sm_cat] using hw
  refine va_mmin hx hb (by rw [hml]; exact hL.1.symm) hown (hts _ w1) (hts _ w2) (hts _ w3) (hts _ w4) ?_ ?_ (Nat.zero_le _) (Nat.zero_le _) hd (k p l e s m args below meth c D ad cA C H locs la hP hS hL)
  · exact hdd
  · show _ + 13 ≤ 64 * sm_d g
    omega
