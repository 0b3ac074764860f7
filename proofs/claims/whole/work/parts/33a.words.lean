/-! ===== what stands at the law's entry besides the cells ===== -/
theorem le_ins : ∀ q ∈ sm_cl, Cond.instantiable q.1 q.2.2 ∈ lw_tbl := List.forall_mem_cons.mpr ⟨List.mem_of_getElem? (i := 360) (by decide +kernel), List.forall_mem_cons.mpr ⟨List.mem_of_getElem? (i := 102) (by decide +kernel), List.forall_mem_cons.mpr ⟨List.mem_of_getElem? (i := 96) (by decide +kernel), List.forall_mem_cons.mpr ⟨List.mem_of_getElem? (i := 165) (by decide +kernel), List.forall_mem_cons.mpr ⟨List.mem_of_getElem? (i := 157) (by decide +kernel), List.forall_mem_cons.mpr ⟨List.mem_of_getElem? (i := 337) (by decide +kernel), List.forall_mem_cons.mpr ⟨List.mem_of_getElem? (i := 256) (by decide +kernel), List.forall_mem_cons.mpr ⟨List.mem_of_getElem? (i := 235) (by decide +kernel), List.forall_mem_cons.mpr ⟨List.mem_of_getElem? (i := 312) (by decide +kernel), List.forall_mem_cons.mpr ⟨List.mem_of_getElem? (i := 347) (by decide +kernel), List.forall_mem_cons.mpr ⟨List.mem_of_getElem? (i := 276) (by decide +kernel), List.forall_mem_cons.mpr ⟨List.mem_of_getElem? (i := 88) (by decide +kernel), List.forall_mem_cons.mpr ⟨List.mem_of_getElem? (i := 1177) (by decide +kernel), fun _ h => absurd h List.not_mem_nil⟩⟩⟩⟩⟩⟩⟩⟩⟩⟩⟩⟩⟩
theorem le_str : ∀ q ∈ sm_strs, q.1 = "UniversalCycles" ∧ Cond.stringRef q.1 q.2.1 q.2.2 ∈ lw_tbl := List.forall_mem_cons.mpr ⟨⟨rfl, List.mem_of_getElem? (i := 710) (by decide +kernel)⟩, List.forall_mem_cons.mpr ⟨⟨rfl, List.mem_of_getElem? (i := 781) (by decide +kernel)⟩, List.forall_mem_cons.mpr ⟨⟨rfl, List.mem_of_getElem? (i := 785) (by decide +kernel)⟩, List.forall_mem_cons.mpr ⟨⟨rfl, List.mem_of_getElem? (i := 799) (by decide +kernel)⟩, List.forall_mem_cons.mpr ⟨⟨rfl, List.mem_of_getElem? (i := 809) (by decide +kernel)⟩, List.forall_mem_cons.mpr ⟨⟨rfl, List.mem_of_getElem? (i := 827) (by decide +kernel)⟩, List.forall_mem_cons.mpr ⟨⟨rfl, List.mem_of_getElem? (i := 852) (by decide +kernel)⟩, List.forall_mem_cons.mpr ⟨⟨rfl, List.mem_of_getElem? (i := 870) (by decide +kernel)⟩, List.forall_mem_cons.mpr ⟨⟨rfl, List.mem_of_getElem? (i := 900) (by decide +kernel)⟩, List.forall_mem_cons.mpr ⟨⟨rfl, List.mem_of_getElem? (i := 908) (by decide +kernel)⟩, List.forall_mem_cons.mpr ⟨⟨rfl, List.mem_of_getElem? (i := 924) (by decide +kernel)⟩, List.forall_mem_cons.mpr ⟨⟨rfl, List.mem_of_getElem? (i := 967) (by decide +kernel)⟩, List.forall_mem_cons.mpr ⟨⟨rfl, List.mem_of_getElem? (i := 999) (by decide +kernel)⟩, List.forall_mem_cons.mpr ⟨⟨rfl, List.mem_of_getElem? (i := 1000) (by decide +kernel)⟩, List.forall_mem_cons.mpr ⟨⟨rfl, List.mem_of_getElem? (i := 1022) (by decide +kernel)⟩, List.forall_mem_cons.mpr ⟨⟨rfl, List.mem_of_getElem? (i := 1047) (by decide +kernel)⟩, List.forall_mem_cons.mpr ⟨⟨rfl, List.mem_of_getElem? (i := 1068) (by decide +kernel)⟩, List.forall_mem_cons.mpr ⟨⟨rfl, List.mem_of_getElem? (i := 1101) (by decide +kernel)⟩, List.forall_mem_cons.mpr ⟨⟨rfl, List.mem_of_getElem? (i := 1106) (by decide +kernel)⟩, List.forall_mem_cons.mpr ⟨⟨rfl, List.mem_of_getElem? (i := 1128) (by decide +kernel)⟩, List.forall_mem_cons.mpr ⟨⟨rfl, List.mem_of_getElem? (i := 1163) (by decide +kernel)⟩, List.forall_mem_cons.mpr ⟨⟨rfl, List.mem_of_getElem? (i := 1171) (by decide +kernel)⟩, fun _ h => absurd h List.not_mem_nil⟩⟩⟩⟩⟩⟩⟩⟩⟩⟩⟩⟩⟩⟩⟩⟩⟩⟩⟩⟩⟩⟩
theorem le_cas : ∀ q ∈ sm_casts, Cond.castable q q ∈ lw_tbl := List.forall_mem_cons.mpr ⟨List.mem_of_getElem? (i := 667) (by decide +kernel), List.forall_mem_cons.mpr ⟨List.mem_of_getElem? (i := 802) (by decide +kernel), List.forall_mem_cons.mpr ⟨List.mem_of_getElem? (i := 774) (by decide +kernel), List.forall_mem_cons.mpr ⟨List.mem_of_getElem? (i := 845) (by decide +kernel), List.forall_mem_cons.mpr ⟨List.mem_of_getElem? (i := 1015) (by decide +kernel), List.forall_mem_cons.mpr ⟨List.mem_of_getElem? (i := 1095) (by decide +kernel), fun _ h => absurd h List.not_mem_nil⟩⟩⟩⟩⟩⟩
theorem le_dcl : ∀ q ∈ sm_decls, Cond.declares q ∈ lw_tbl := List.forall_mem_cons.mpr ⟨List.mem_of_getElem? (i := 669) (by decide +kernel), List.forall_mem_cons.mpr ⟨List.mem_of_getElem? (i := 671) (by decide +kernel), List.forall_mem_cons.mpr ⟨List.mem_of_getElem? (i := 673) (by decide +kernel), fun _ h => absurd h List.not_mem_nil⟩⟩⟩
theorem le_nst : ∀ q ∈ nm_nest, Cond.methodLinkNest q.1 q.2.1 q.2.2 "UniversalCycles" ∈ lw_tbl := List.forall_mem_cons.mpr ⟨List.mem_of_getElem? (i := 97) (by decide +kernel), List.forall_mem_cons.mpr ⟨List.mem_of_getElem? (i := 103) (by decide +kernel), List.forall_mem_cons.mpr ⟨List.mem_of_getElem? (i := 158) (by decide +kernel), List.forall_mem_cons.mpr ⟨List.mem_of_getElem? (i := 163) (by decide +kernel), List.forall_mem_cons.mpr ⟨List.mem_of_getElem? (i := 166) (by decide +kernel), List.forall_mem_cons.mpr ⟨List.mem_of_getElem? (i := 236) (by decide +kernel), List.forall_mem_cons.mpr ⟨List.mem_of_getElem? (i := 263) (by decide +kernel), List.forall_mem_cons.mpr ⟨List.mem_of_getElem? (i := 277) (by decide +kernel), List.forall_mem_cons.mpr ⟨List.mem_of_getElem? (i := 313) (by decide +kernel), List.forall_mem_cons.mpr ⟨List.mem_of_getElem? (i := 318) (by decide +kernel), List.forall_mem_cons.mpr ⟨List.mem_of_getElem? (i := 338) (by decide +kernel), List.forall_mem_cons.mpr ⟨List.mem_of_getElem? (i := 348) (by decide +kernel), List.forall_mem_cons.mpr ⟨List.mem_of_getElem? (i := 353) (by decide +kernel), List.forall_mem_cons.mpr ⟨List.mem_of_getElem? (i := 361) (by decide +kernel), fun _ h => absurd h List.not_mem_nil⟩⟩⟩⟩⟩⟩⟩⟩⟩⟩⟩⟩⟩⟩
theorem le_ncs {args : Array Value} {s : State} (hs : (Jvm.Cond.and given_1 narrow_1).before args s = true) : ∀ q ∈ sm_ncs, va_Nc q.1 q.2 s := List.forall_mem_cons.mpr ⟨va_Nc.of (flat_of_before _ hs _ (by decide +kernel)), List.forall_mem_cons.mpr ⟨va_Nc.of (flat_of_before _ hs _ (by decide +kernel)), List.forall_mem_cons.mpr ⟨va_Nc.of (flat_of_before _ hs _ (by decide +kernel)), List.forall_mem_cons.mpr ⟨va_Nc.of (flat_of_before _ hs _ (by decide +kernel)), List.forall_mem_cons.mpr ⟨va_Nc.of (flat_of_before _ hs _ (by decide +kernel)), List.forall_mem_cons.mpr ⟨va_Nc.of (flat_of_before _ hs _ (by decide +kernel)), List.forall_mem_cons.mpr ⟨va_Nc.of (flat_of_before _ hs _ (by decide +kernel)), List.forall_mem_cons.mpr ⟨va_Nc.of (flat_of_before _ hs _ (by decide +kernel)), List.forall_mem_cons.mpr ⟨va_Nc.of (flat_of_before _ hs _ (by decide +kernel)), List.forall_mem_cons.mpr ⟨va_Nc.of (flat_of_before _ hs _ (by decide +kernel)), fun _ h => absurd h List.not_mem_nil⟩⟩⟩⟩⟩⟩⟩⟩⟩⟩
theorem le_arr {args : Array Value} {s : State} {t : FieldType} (h : (Cond.arrayClass t).before args s = true) (ht : ∀ C, t ≠ .object C) : ∃ c, ArrOfT s c t ∧ va_RA s c t := by
  obtain ⟨c, k, comp, h1, h2, h3⟩ := Cond.arrayClass_spec h
  refine ⟨c, fun n z => ⟨fun k h => (by cases h), k, h2, comp, h3⟩, ?_⟩
  cases t with
  | object C => exact absurd rfl (ht C)
  | _ => exact h1
theorem le_aro {args : Array Value} {s : State} {C : String} (h : (Cond.arrayOver (.object C)).before args s = true) : ∃ c, ArrOfT s c (.object C) ∧ va_RA s c (.object C) := by
  obtain ⟨comp, c, k, h1, -, h3, h4, h5⟩ := Cond.arrayOver_spec h
  exact ⟨c, fun n z => ⟨fun k h => (by cases h), k, h3, comp, h4⟩, k, comp, h3, h4, h1, h5⟩
theorem le_ara {args : Array Value} {s : State} {t : FieldType} (h : (Cond.arrayOver (.array t)).before args s = true) : ∃ c, ArrOfT s c (.array t) ∧ va_RA s c (.array t) := by
  obtain ⟨comp, c, k, h1, h3, h4, h5⟩ := Cond.arrayOver_specA h
  exact ⟨c, fun n z => ⟨fun k h => (by cases h), k, h3, comp, h4⟩, h5⟩
theorem le_K {b : Nat} {s : State} (hts : ∀ w ∈ lw_tbl, w.before #[Value.ref b] s = true) (hgv : (Jvm.Cond.and given_1 narrow_1).before #[Value.ref b] s = true) : ∃ (D : va_G) (cA : Nat → ClassId), nm_K D s.heap.size cA s := by
  have ht2 : ∀ w ∈ sm_TB, w.before #[Value.ref b] s = true := fun w hw => hts w (List.mem_filter.mp hw).1
  have hk : ∀ ci : Nat, ∃ y : ClassId × (Nat → Nat), ∀ q, sm_cl[ci]? = some q → u_Kn s q.1 q.2.1 q.2.2 y.1 y.2 := fun ci => by
    cases hq : sm_cl[ci]? with
    | none => exact ⟨(0, fun _ => 0), fun q h => by cases h⟩
    | some q =>
      obtain ⟨C, T, N⟩ := q
      obtain ⟨cC, iS, h⟩ := u_known (C := C) (T := T) (N := N) (n := N) ht2 (sm_in hq) (hts _ (le_ins _ (List.mem_of_getElem? hq)))
      exact ⟨(cC, iS), fun q h9 => by cases h9; exact h⟩
  obtain ⟨f, hf⟩ := Classical.skolem.mp hk
  obtain ⟨c0, a0⟩ := le_arr (t := .int) (hts _ (List.mem_of_getElem? (i := 125) (by decide +kernel))) (fun C h => by cases h)
  obtain ⟨c1, a1⟩ := le_arr (t := .char) (hts _ (List.mem_of_getElem? (i := 505) (by decide +kernel))) (fun C h => by cases h)
  obtain ⟨c2, a2⟩ := le_arr (t := .boolean) (hts _ (List.mem_of_getElem? (i := 310) (by decide +kernel))) (fun C h => by cases h)
  obtain ⟨c3, a3⟩ := le_arr (t := .long) (hts _ (List.mem_of_getElem? (i := 371) (by decide +kernel))) (fun C h => by cases h)
  have w4 : (Cond.arrayOver (.object "UniversalCycles$Row")).before #[Value.ref b] s = true := hts _ (List.mem_of_getElem? (i := 262) (by decide +kernel))
  have w5 : (Cond.arrayOver (.array .long)).before #[Value.ref b] s = true := hts _ (List.mem_of_getElem? (i := 366) (by decide +kernel))
  obtain ⟨c4, a4⟩ := le_aro w4
  obtain ⟨c5, a5⟩ := le_ara w5
  have hU := (hf 11 _ rfl).2.1
  have hA : ∀ a : Nat, a < s.heap.size → ¬ s.heap.size ≤ a := fun a h => by omega
  have hini := hts (.initialized "java/lang/Throwable") (List.mem_of_getElem? (i := 76) (by decide +kernel))
  refine ⟨(fun c => (f c).1, fun c => (f c).2), fun k => if k = 0 then c0 else if k = 1 then c1 else if k = 2 then c2 else if k = 3 then c3 else if k = 4 then c4 else c5, ⟨fun c q h => hf c q h, fun k q h => ?_⟩, ?_, ?_, fun q hq => ?_, fun q hq => va_Nw.of rfl (hts _ (le_cas q hq)), fun q hq => va_Nw.of rfl (hts _ (le_dcl q hq)), le_ncs hgv, fun q hq => va_Nw.of rfl (hts _ (le_nst q hq)), va_AO.of w4, w5⟩
  · match k, h with
    | 0, h => cases h; exact a0
    | 1, h => cases h; exact a1
    | 2, h => cases h; exact a2
    | 3, h => cases h; exact a3
    | 4, h => cases h; exact a4
    | 5, h => cases h; exact a5
    | k + 6, h => simp [sm_tys] at h
  · exact vx_Zqof (hts _ (List.mem_of_getElem? (i := 692) (by decide +kernel))) hini (flat_of_before _ hgv _ (by decide +kernel)) hA
  · exact vx_Zqof (hts _ (List.mem_of_getElem? (i := 694) (by decide +kernel))) hini (flat_of_before _ hgv _ (by decide +kernel)) hA
  · obtain ⟨e, hm⟩ := le_str q hq
    have h1 := hts _ hm
    have hcur : s.vm.findClass q.1 = some (f 11).1 := by rw [e]; exact hU
    obtain ⟨k, cf, i, a, -, -, -, -, -, h2⟩ := Cond.stringRef_spec hcur h1
    exact ⟨a, vk_R.of h1 h2⟩
