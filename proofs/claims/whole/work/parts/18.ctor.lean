/-! ===== the constructors: a growing world, thing a at the address B + a (nm_) ===== -/
abbrev nm_E : Type := (Nat × Nat × (Nat → Int32) × (Nat → Int64) × List (Option Nat)) ⊕ (Nat × List Value)
def nm_ar (B k : Nat) (fi : Nat → Int32) (fl : Nat → Int64) (rs : List (Option Nat)) : (Nat → Int32) ⊕ (Nat → Int64) ⊕ (Nat → UInt32) ⊕ (Nat → UInt64) ⊕ (Nat → Option Nat) :=
  if k < 3 then .inl fi else if k = 3 then .inr (.inl fl) else .inr (.inr (.inr (.inr (fun i => ((rs[i]?).getD none).map (fun r => B + r)))))
def nm_cell (B : Nat) (cA : Nat → ClassId) : nm_E → va_E
  | .inl (k, n, fi, fl, rs) => .inl (cA k, n, nm_ar B k fi fl rs)
  | .inr (ci, fs) => .inr (ci, fs.map (sm_cv (fun a => B + a)))
def nm_ws (B : Nat) (cA : Nat → ClassId) (dh : List nm_E) : va_W := dh.mapIdx (fun a e => (B + a, nm_cell B cA e))
theorem nm_at {B : Nat} {cA : Nat → ClassId} {dh : List nm_E} {a : Nat} {e : nm_E} (h : dh[a]? = some e) : (nm_ws B cA dh)[a]? = some (B + a, nm_cell B cA e) := by
  unfold nm_ws
  rw [List.getElem?_mapIdx, h]
  rfl
theorem nm_ix {B : Nat} {cA : Nat → ClassId} {dh : List nm_E} {k : Nat} {q : Nat × va_E} (h : (nm_ws B cA dh)[k]? = some q) : k < dh.length ∧ q.1 = B + k := by
  unfold nm_ws at h
  rw [List.getElem?_mapIdx] at h
  cases hs : dh[k]? with
  | none => rw [hs] at h; cases h
  | some sh =>
    rw [hs] at h
    cases h
    exact ⟨(List.getElem?_eq_some_iff.mp hs).1, rfl⟩
theorem nm_push {B : Nat} {cA : Nat → ClassId} {dh : List nm_E} {e : nm_E} : nm_ws B cA (dh ++ [e]) = nm_ws B cA dh ++ [(B + dh.length, nm_cell B cA e)] := by
  unfold nm_ws
  rw [List.mapIdx_append]
  simp
theorem nm_set {B : Nat} {cA : Nat → ClassId} {dh : List nm_E} {a : Nat} {e0 e : nm_E} (h : dh[a]? = some e0) : (nm_ws B cA dh).set a (B + a, nm_cell B cA e) = nm_ws B cA (dh.set a e) := by
  apply List.ext_getElem?
  intro i
  have hl : a < dh.length := (List.getElem?_eq_some_iff.mp h).1
  by_cases hi : i = a
  · subst hi
    rw [List.getElem?_set_self (by unfold nm_ws; rw [List.length_mapIdx]; exact hl), nm_at (List.getElem?_set_self hl)]
  · rw [List.getElem?_set_ne (Ne.symm hi)]
    unfold nm_ws
    rw [List.getElem?_mapIdx, List.getElem?_mapIdx, List.getElem?_set_ne (Ne.symm hi)]
theorem nm_D {B : Nat} {cA : Nat → ClassId} {dh : List nm_E} : va_D (fun q => B ≤ q) (nm_ws B cA dh) := by
  refine ⟨fun i j x y h1 h2 h3 => ?_, fun k q h => ?_⟩
  · have a := nm_ix h1
    have b := nm_ix h2
    omega
  · have a := nm_ix h
    show B ≤ q.1
    omega
def nm_nest : List (String × Nat × MethodName) := [("UniversalCycles", 9, ⟨"UniversalCycles$Family", "<init>", "()V"⟩), ("UniversalCycles$Family", 11, ⟨"UniversalCycles$Codes", "<init>", "()V"⟩), ("UniversalCycles", 18, ⟨"UniversalCycles$Graph", "<init>", "()V"⟩), ("UniversalCycles$Graph", 11, ⟨"UniversalCycles$Codes", "<init>", "()V"⟩), ("UniversalCycles$Graph", 20, ⟨"UniversalCycles$Fan", "<init>", "()V"⟩), ("UniversalCycles", 25, ⟨"UniversalCycles$Row", "<init>", "()V"⟩), ("UniversalCycles$History", 17, ⟨"UniversalCycles$Row", "<init>", "()V"⟩), ("UniversalCycles", 39, ⟨"UniversalCycles$Windows", "<init>", "()V"⟩), ("UniversalCycles", 46, ⟨"UniversalCycles$Search", "<init>", "()V"⟩), ("UniversalCycles$Search", 11, ⟨"UniversalCycles$Row", "<init>", "()V"⟩), ("UniversalCycles", 53, ⟨"UniversalCycles$Greedy", "<init>", "()V"⟩), ("UniversalCycles", 60, ⟨"UniversalCycles$Unfolding", "<init>", "()V"⟩), ("UniversalCycles$Unfolding", 11, ⟨"UniversalCycles$Row", "<init>", "()V"⟩), ("UniversalCycles", 67, ⟨"UniversalCycles$CircuitCounter", "<init>", "()V"⟩)]
def nm_AOA (U : State) : Prop := (Cond.arrayOver (.array .long)).before #[] U = true
theorem nm_AOA.moved {u U : State} (hvm : u.vm.Alike U.vm) (h : nm_AOA u) : nm_AOA U := over_moved hvm h
def nm_K (D : va_G) (B : Nat) (cA : Nat → ClassId) (U : State) : Prop :=
  va_K D sm_cl (sm_tys cA) U ∧ vx_Zq Bundle.tN "UNASSIGNED_STACK" Bundle.steD (fun q => B ≤ q) U U.heap ∧ vx_Zq Bundle.tN "SUPPRESSED_SENTINEL" Bundle.listD (fun q => B ≤ q) U U.heap ∧
  (∀ q ∈ sm_strs, ∃ a, vk_R q.1 q.2.1 q.2.2 a U) ∧ (∀ q ∈ sm_casts, va_Nw (.castable q q) U) ∧ (∀ q ∈ sm_decls, va_Nw (.declares q) U) ∧ (∀ q ∈ sm_ncs, va_Nc q.1 q.2 U) ∧ (∀ q ∈ nm_nest, va_Nw (.methodLinkNest q.1 q.2.1 q.2.2 "UniversalCycles") U) ∧ va_AO "UniversalCycles$Row" U ∧ nm_AOA U
theorem nm_K.go {D : va_G} {B : Nat} {cA : Nat → ClassId} {s U : State} {H : Heap} {locs : List Loc} (h : nm_K D B cA s) (hS : va_S (fun q => B ≤ q) s.heap H locs) (hU : U.heap = H) (hW : s.WarmedH U.vm) : nm_K D B cA U := by
  obtain ⟨h1, h3, h4, h5, h6, h7, h8, h9, h10, h11⟩ := h
  refine ⟨va_K.moved hW.alike h1, ?_, ?_, fun q hq => ?_, fun q hq => va_Nw.warmC hW (h6 q hq), fun q hq => va_Nw.warmD hW (h7 q hq), fun q hq => va_Nc.moved hW.alike (h8 q hq), fun q hq => va_Nw.warmM hW (h9 q hq), va_AO.moved hW.alike h10, nm_AOA.moved hW.alike h11⟩
  · rw [hU]; exact vx_Zq.kept (vx_Zq.moved hW.alike h3) hS.2.1
  · rw [hU]; exact vx_Zq.kept (vx_Zq.moved hW.alike h4) hS.2.1
  · obtain ⟨a, ha⟩ := h5 q hq
    exact ⟨a, vk_R.warm hW ha⟩
/-- the static world's facts out of these -/
theorem nm_K.sm {D : va_G} {B : Nat} {cA : Nat → ClassId} {U : State} (n : Nat) (h : nm_K D B cA U) : sm_K D (fun a => B + a) cA n U := by
  obtain ⟨h1, h3, h4, h5, h6, h7, h8, -⟩ := h
  exact ⟨h1, fun i j _ _ e => by have e' : B + i = B + j := e; omega, vx_Zq.narrow h3 (fun q ⟨a, _, e⟩ => by have e' : q = B + a := e; omega), vx_Zq.narrow h4 (fun q ⟨a, _, e⟩ => by have e' : q = B + a := e; omega), h5, h6, h7, h8⟩
def nm_rm (d mc ms : Nat) : Room := { frames := d, cells := mc, slots := ms, locals := 64 * d }
def nm_Pc (D : va_G) (B : Nat) (cA : Nat → ClassId) (av : List Value) (dh : List nm_E) : Array Value → State → Prop := fun v U =>
  v = (av.map (sm_cv (fun a => B + a))).toArray ∧ U.heap.size = B + dh.length ∧ va_P D sm_cl (nm_ws B cA dh) U.heap ∧ nm_K D B cA U
def nm_Qc (D : va_G) (B : Nat) (cA : Nat → ClassId) (dh' : List nm_E) : Array Value → State → Outcome → State → Prop := fun _ st oc t =>
  (oc = .returned none ∧ va_P D sm_cl (nm_ws B cA dh') t.heap) ∧ va_F (fun q => B ≤ q) st t
def nm_Ct (y : MethodName) (md : sm_Md) (d mc ms : Nat) (av : List Value) (dh dh' : List nm_E) : Prop :=
  ∀ (l : Launch) (D : va_G) (B : Nat) (cA : Nat → ClassId), l.stackTraces = false → Met l y (Cond.code y md.2.1 md.2.2.1 md.2.2.2 :: sm_TB) (nm_rm d mc ms) (nm_Pc D B cA av dh) (nm_Qc D B cA dh') mc ms (fun q => B ≤ q)
/-- md, depth, cells, slots, things at the start, things at the end -/
abbrev nm_G : Type := sm_Md × Nat × Nat × Nat × Nat × List nm_E
def nm_Cx (g : nm_G) (B : Nat) (p : Program) (l : Launch) (s : State) (m : MethodId) (args : Array Value) (meth : Method) (c : Code) (D : va_G) (cA : Nat → ClassId) : Prop :=
  l.stackTraces = false ∧ p.tables.exec = Jvm.exec ∧ c.code = g.1.2.1 ∧ meth.sig.returnType = none ∧ c.maxLocals = g.1.2.2.1 ∧ s.vm.findClass g.1.1 = some m.cls ∧ (∀ w ∈ sm_TB, w.before args s = true) ∧ meth.locks = false ∧ meth.name = "<init>" ∧ s.heap.size = B + g.2.2.2.2.1 ∧ nm_K D B cA s
def nm_J (g : nm_G) (pc : Nat) (ls : List (Option Value)) (st : List Value) (dh : List nm_E) (nc ns : Nat) : Prop :=
  ∀ (p : Program) (l : Launch) (e : Env) (s : State) (m : MethodId) (args : Array Value) (below : List Frame) (meth : Method) (c : Code) (D : va_G) (B : Nat) (cA : Nat → ClassId),
    nm_Cx g B p l s m args meth c D cA → ∀ (H : Heap) (locs : List Loc) (la : Array Slot), va_P D sm_cl (nm_ws B cA dh) H → va_S (fun q => B ≤ q) s.heap H locs → lv_has la g.1.2.2.1 (sm_lv (fun a => B + a) ls) →
    W p l e (nm_rm g.2.1 g.2.2.1 g.2.2.2.1) s m args below meth c H locs nc ns (MQ below (nm_Qc D B cA g.2.2.2.2.2) args s g.2.2.1 g.2.2.2.1 (fun q => B ≤ q)) (F0 m pc la (st.map (sm_cv (fun a => B + a))))
theorem nm_size {p : Program} {l : Launch} {e : Env} {R : Room} {s : State} {m : MethodId} {args : Array Value} {below : List Frame} {meth : Method} {c : Code} {T : State} {H : Heap} {locs : List Loc} {nc ns : Nat} {D : va_G} {B n0 n : Nat} {cA : Nat → ClassId} {dh : List nm_E}
    (X : Stand p l e R s m args below meth c T locs nc ns) (hT : T.heap = H) (h0 : s.heap.size = B + n0) (hn : dh.length = n) (hc : n0 + nc = n) (hpos : 0 < n) (hP : va_P D sm_cl (nm_ws B cA dh) H) : H.size = B + n := by
  have h1 : T.heap.size ≤ s.heap.size + nc := X.same.2.2.1
  rw [hT] at h1
  have hl : n - 1 < dh.length := by omega
  obtain ⟨x, hx⟩ : ∃ x, dh[n - 1]? = some x := ⟨_, List.getElem?_eq_getElem hl⟩
  have h2 := (hP _ _ (nm_at (B := B) (cA := cA) hx)).lt
  dsimp only at h2
  omega
theorem nm_szW {p : Program} {l : Launch} {e : Env} {R : Room} {s : State} {m : MethodId} {args : Array Value} {below : List Frame} {meth : Method} {c : Code} {H : Heap} {locs : List Loc} {nc ns : Nat} {Q : State → Prop} {f : JFrame} {D : va_G} {B n0 n : Nat} {cA : Nat → ClassId} {dh : List nm_E}
    (h0 : s.heap.size = B + n0) (hn : dh.length = n) (hc : n0 + nc = n) (hpos : 0 < n) (hP : va_P D sm_cl (nm_ws B cA dh) H) (kk : H.size = B + n → W p l e R s m args below meth c H locs nc ns Q f) : W p l e R s m args below meth c H locs nc ns Q f :=
  fun T hT X => kk (nm_size X hT h0 hn hc hpos hP) T hT X
theorem nm_l1 {dh : List nm_E} {a : Nat} {e x : nm_E} (h : dh[a]? = some e) : (dh ++ [x])[a]? = some e := by
  rw [List.getElem?_append_left (List.getElem?_eq_some_iff.mp h).1]
  exact h
theorem nm_l2 {dh : List nm_E} {a : Nat} {e0 e : nm_E} (h : dh[a]? = some e0) : (dh.set a e)[a]? = some e := List.getElem?_set_self (List.getElem?_eq_some_iff.mp h).1
theorem nm_l4 {dh : List nm_E} {a b : Nat} {e0 e : nm_E} (hne : b ≠ a) (h : dh[b]? = some e0) : (dh.set a e)[b]? = some e0 := by
  rw [List.getElem?_set_ne (Ne.symm hne)]
  exact h
theorem nm_l3 {dh : List nm_E} {n : Nat} {x : nm_E} (h : dh.length = n) : (dh ++ [x])[n]? = some x := by
  subst h
  simp
theorem nm_la {dh d1 : List nm_E} {n : Nat} {x : nm_E} (e : d1 = dh ++ [x]) (h : dh.length = n) : d1.length = n + 1 := by
  rw [e, List.length_append, h]
  rfl
theorem nm_ls {dh d1 : List nm_E} {n a : Nat} {x : nm_E} (e : d1 = dh.set a x) (h : dh.length = n) : d1.length = n := by
  rw [e, List.length_set, h]
/-- a static world, seen so -/
def nm_dc (M : sm_M) (a : Nat) : sm_Sh → nm_E
  | .inl (k, n, rs) => .inl (k, n, M.1 a, M.2 a, rs.map some)
  | .inr (ci, fs) => .inr (ci, fs.mapIdx (fun j f => match f with | none => Value.int (M.1 a j) | some r => Value.ref r))
def nm_dy (sk : List sm_Sh) (M : sm_M) : List nm_E := sk.mapIdx (nm_dc M)
theorem nm_dyl (sk : List sm_Sh) (M : sm_M) : (nm_dy sk M).length = sk.length := by
  unfold nm_dy
  rw [List.length_mapIdx]
theorem nm_dyw {B : Nat} {cA : Nat → ClassId} (sk : List sm_Sh) (M : sm_M) : nm_ws B cA (nm_dy sk M) = sm_ws (fun a => B + a) cA sk M := by
  unfold nm_ws nm_dy sm_ws
  apply List.ext_getElem?
  intro i
  rw [List.getElem?_mapIdx, List.getElem?_mapIdx, List.getElem?_mapIdx]
  cases hs : sk[i]? with
  | none => rfl
  | some sh =>
    simp only [Option.map_some]
    congr 2
    match sh with
    | .inl (k, n, rs) =>
      show Sum.inl (cA k, n, nm_ar B k (M.1 i) (M.2 i) (rs.map some)) = Sum.inl (cA k, n, sm_arr (fun a => B + a) M i k rs)
      have hf : (fun j : Nat => (((rs.map some)[j]?).getD none).map (fun r => B + r)) = fun j => (rs[j]?).map (fun a => B + a) := by
        funext j
        rw [List.getElem?_map]
        cases rs[j]? <;> rfl
      unfold nm_ar sm_arr
      rw [hf]
    | .inr (ci, fs) =>
      show Sum.inr (ci, _) = Sum.inr (ci, _)
      congr 2
      apply List.ext_getElem?
      intro j
      rw [List.getElem?_map, List.getElem?_mapIdx, List.getElem?_mapIdx]
      cases hf : fs[j]? with
      | none => rfl
      | some f => cases f <;> rfl
/-! rules -/

theorem nm_iconst {g : nm_G} {pc q : Nat} {ls : List (Option Value)} {st : List Value} {dh : List nm_E} {nc ns : Nat} {n : Int} {v : Int32} (hd : decode g.1.2.1 pc = .ok (.iconst n, 1)) (hq : pc + 1 = q) (hv : Int32.ofInt n = v)
    (k : nm_J g q ls (.int v :: st) dh nc ns) : nm_J g pc ls st dh nc ns := by
  subst hq
  intro p l e s m args below meth c D B cA C H locs la hP hS hL
  obtain ⟨hst, hx, hb, hr, hml, hown, hts, hlk, hin, hB, hK⟩ := id C
  exact lv_iconst hx hb hd hv (k p l e s m args below meth c D B cA C H locs la hP hS hL)
theorem nm_bipush {g : nm_G} {pc q : Nat} {ls : List (Option Value)} {st : List Value} {dh : List nm_E} {nc ns : Nat} {n : Int} {v : Int32} (hd : decode g.1.2.1 pc = .ok (.bipush n, 2)) (hq : pc + 2 = q) (hv : (Int8.ofInt n).toInt32 = v)
    (k : nm_J g q ls (.int v :: st) dh nc ns) : nm_J g pc ls st dh nc ns := by
  subst hq
  intro p l e s m args below meth c D B cA C H locs la hP hS hL
  obtain ⟨hst, hx, hb, hr, hml, hown, hts, hlk, hin, hB, hK⟩ := id C
  exact lv_bipush hx hb hd hv (k p l e s m args below meth c D B cA C H locs la hP hS hL)
theorem nm_sipush {g : nm_G} {pc q : Nat} {ls : List (Option Value)} {st : List Value} {dh : List nm_E} {nc ns : Nat} {n : Int} {v : Int32} (hd : decode g.1.2.1 pc = .ok (.sipush n, 3)) (hq : pc + 3 = q) (hv : (Int16.ofInt n).toInt32 = v)
    (k : nm_J g q ls (.int v :: st) dh nc ns) : nm_J g pc ls st dh nc ns := by
  subst hq
  intro p l e s m args below meth c D B cA C H locs la hP hS hL
  obtain ⟨hst, hx, hb, hr, hml, hown, hts, hlk, hin, hB, hK⟩ := id C
  exact lv_sipush hx hb hd hv (k p l e s m args below meth c D B cA C H locs la hP hS hL)
theorem nm_ldc {g : nm_G} {pc q : Nat} {ls : List (Option Value)} {st : List Value} {dh : List nm_E} {nc ns : Nat} {i : Nat} {v : Int32} (hd : decode g.1.2.1 pc = .ok (.ldc i, 2)) (hq : pc + 2 = q) (hw : Cond.constant g.1.1 i v ∈ sm_TB)
    (k : nm_J g q ls (.int v :: st) dh nc ns) : nm_J g pc ls st dh nc ns := by
  subst hq
  intro p l e s m args below meth c D B cA C H locs la hP hS hL
  obtain ⟨hst, hx, hb, hr, hml, hown, hts, hlk, hin, hB, hK⟩ := id C
  exact lv_ldc hx hb hown (hts _ hw) hd (k p l e s m args below meth c D B cA C H locs la hP hS hL)
theorem nm_iload_n {g : nm_G} {pc q : Nat} {ls : List (Option Value)} {st : List Value} {dh : List nm_E} {nc ns : Nat} {n : Fin 4} {x : Int32} (hd : decode g.1.2.1 pc = .ok (.iload_n n, 1)) (hq : pc + 1 = q) (hv : ls[(n : Nat)]? = some (some (.int x)))
    (k : nm_J g q ls (.int x :: st) dh nc ns) : nm_J g pc ls st dh nc ns := by
  subst hq
  intro p l e s m args below meth c D B cA C H locs la hP hS hL
  obtain ⟨hst, hx, hb, hr, hml, hown, hts, hlk, hin, hB, hK⟩ := id C
  exact lv_iload_n hx hb hd rfl (sm_lvat hL hv) (k p l e s m args below meth c D B cA C H locs la hP hS hL)
theorem nm_aload_n {g : nm_G} {pc q : Nat} {ls : List (Option Value)} {st : List Value} {dh : List nm_E} {nc ns : Nat} {n : Fin 4} {x : Nat} (hd : decode g.1.2.1 pc = .ok (.aload_n n, 1)) (hq : pc + 1 = q) (hv : ls[(n : Nat)]? = some (some (.ref x)))
    (k : nm_J g q ls (.ref x :: st) dh nc ns) : nm_J g pc ls st dh nc ns := by
  subst hq
  intro p l e s m args below meth c D B cA C H locs la hP hS hL
  obtain ⟨hst, hx, hb, hr, hml, hown, hts, hlk, hin, hB, hK⟩ := id C
  exact lv_aload_n hx hb hd rfl (sm_lvat hL hv) (k p l e s m args below meth c D B cA C H locs la hP hS hL)
theorem nm_istore_n {g : nm_G} {pc q : Nat} {ls : List (Option Value)} {st : List Value} {dh : List nm_E} {nc ns : Nat} {n : Fin 4} {x : Int32} {lt : List (Option Value)} (hd : decode g.1.2.1 pc = .ok (.istore_n n, 1)) (hq : pc + 1 = q) (hn : (n : Nat) < g.1.2.2.1) (ho : sm_ok1 ls (n : Nat) = true) (hl9 : ls.set (n : Nat) (some (.int x)) = lt)
    (k : nm_J g q lt st dh nc ns) : nm_J g pc ls (.int x :: st) dh nc ns := by
  subst hq
  intro p l e s m args below meth c D B cA C H locs la hP hS hL
  obtain ⟨hst, hx, hb, hr, hml, hown, hts, hlk, hin, hB, hK⟩ := id C
  subst hl9
  exact lv_istore_n hx hb hd rfl hL hn rfl (fun la' hL' => k p l e s m args below meth c D B cA C H locs la' hP hS (sm_lvst1 (v := .int x) ho rfl hL'))
theorem nm_iinc {g : nm_G} {pc q : Nat} {ls : List (Option Value)} {st : List Value} {dh : List nm_E} {nc ns : Nat} {i : Nat} {n : Int} {x v : Int32} {lt : List (Option Value)} (hd : decode g.1.2.1 pc = .ok (.iinc i n, 3)) (hq : pc + 3 = q) (hi : ls[i]? = some (some (.int x))) (hv : x + Int32.ofInt n = v) (hn : i < g.1.2.2.1) (ho : sm_ok1 ls i = true) (hl9 : ls.set i (some (.int v)) = lt)
    (k : nm_J g q lt st dh nc ns) : nm_J g pc ls st dh nc ns := by
  subst hq
  intro p l e s m args below meth c D B cA C H locs la hP hS hL
  obtain ⟨hst, hx, hb, hr, hml, hown, hts, hlk, hin, hB, hK⟩ := id C
  subst hl9
  obtain ⟨kx, hkx⟩ := sm_lvk (ad := fun a => B + a) hi
  exact lv_iinc hx hb hd hL hkx hv hn rfl (fun la' hL' => k p l e s m args below meth c D B cA C H locs la' hP hS (sm_lvst1 (v := .int v) ho rfl hL'))
theorem nm_dup {g : nm_G} {pc q : Nat} {ls : List (Option Value)} {st : List Value} {dh : List nm_E} {nc ns : Nat} {v : Value} (hd : decode g.1.2.1 pc = .ok (.dup, 1)) (hq : pc + 1 = q) (hv : v.category = 1)
    (k : nm_J g q ls (v :: v :: st) dh nc ns) : nm_J g pc ls (v :: st) dh nc ns := by
  subst hq
  intro p l e s m args below meth c D B cA C H locs la hP hS hL
  obtain ⟨hst, hx, hb, hr, hml, hown, hts, hlk, hin, hB, hK⟩ := id C
  exact lv_dup hx hb hd (by rw [sm_cat]; exact hv) (k p l e s m args below meth c D B cA C H locs la hP hS hL)
theorem nm_goto {g : nm_G} {pc q : Nat} {ls : List (Option Value)} {st : List Value} {dh : List nm_E} {nc ns : Nat} {off : Int} {t : Nat} (hd : decode g.1.2.1 pc = .ok (.goto off, 3)) (hq : pc + 0 = q) (ht : (pc : Int) + off = (t : Int))
    (k : nm_J g t ls st dh nc ns) : nm_J g pc ls st dh nc ns := by
  subst hq
  intro p l e s m args below meth c D B cA C H locs la hP hS hL
  obtain ⟨hst, hx, hb, hr, hml, hown, hts, hlk, hin, hB, hK⟩ := id C
  exact lv_goto hx hb hd ht (k p l e s m args below meth c D B cA C H locs la hP hS hL)
theorem nm_icmp_geF {g : nm_G} {pc q : Nat} {ls : List (Option Value)} {st : List Value} {dh : List nm_E} {nc ns : Nat} {x y : Int32} {off : Int} {t : Nat} (hd : decode g.1.2.1 pc = .ok (.if_icmp .ge off, 3)) (hq : pc + 3 = q) (ht : (pc : Int) + off = (t : Int)) (hc : ¬ y ≤ x)
    (k : nm_J g q ls st dh nc ns) : nm_J g pc ls (.int y :: .int x :: st) dh nc ns := by
  subst hq
  intro p l e s m args below meth c D B cA C H locs la hP hS hL
  obtain ⟨hst, hx, hb, hr, hml, hown, hts, hlk, hin, hB, hK⟩ := id C
  exact lv_icmp_ge hx hb hd ht (fun h => absurd h hc) (fun _ => k p l e s m args below meth c D B cA C H locs la hP hS hL)
theorem nm_icmp_geT {g : nm_G} {pc q : Nat} {ls : List (Option Value)} {st : List Value} {dh : List nm_E} {nc ns : Nat} {x y : Int32} {off : Int} {t : Nat} (hd : decode g.1.2.1 pc = .ok (.if_icmp .ge off, 3)) (hq : pc + 0 = q) (ht : (pc : Int) + off = (t : Int)) (hc : y ≤ x)
    (k : nm_J g t ls st dh nc ns) : nm_J g pc ls (.int y :: .int x :: st) dh nc ns := by
  subst hq
  intro p l e s m args below meth c D B cA C H locs la hP hS hL
  obtain ⟨hst, hx, hb, hr, hml, hown, hts, hlk, hin, hB, hK⟩ := id C
  exact lv_icmp_ge hx hb hd ht (fun _ => k p l e s m args below meth c D B cA C H locs la hP hS hL) (fun h => absurd hc h)
theorem nm_objinit {g : nm_G} {pc q i a : Nat} {ls : List (Option Value)} {st : List Value} {dh : List nm_E} {nc ns : Nat} (hd : decode g.1.2.1 pc = .ok (.invokespecial i, 3)) (hq : pc + 3 = q) (hw : Cond.methodLink g.1.1 i objectInit ∈ sm_TB) (hw2 : Cond.instanceMethod objectInit ∈ sm_TB) (hw3 : Cond.code objectInit ⟨#[0xb1]⟩ 1 none ∈ sm_TB) (hdd : 0 < g.2.1) (hr9 : (st.map fun v => v.category).sum ≤ 8)
    (k : nm_J g q ls st dh nc ns) : nm_J g pc ls (.ref a :: st) dh nc ns := by
  subst hq
  intro p l e s m args below meth c D B cA C H locs la hP hS hL
  obtain ⟨hst, hx, hb, hr, hml, hown, hts, hlk, hin, hB, hK⟩ := id C
  have h6 : ((st.map (sm_cv (fun a => B + a))).map fun v => v.category).sum ≤ 8 := by
    rw [List.map_map]
    simpa [Function.comp_def, sm_cat] using hr9
  refine W.objInit hx hb hown (hts _ hw) (hts _ hw2) (hts _ hw3) rfl (by rw [hml]; exact hL.1) rfl hd ?_ ?_ (k p l e s m args below meth c D B cA C H locs la hP hS hL)
  · exact hdd
  · show 2 * 0 + _ + 12 ≤ 64 * g.2.1
    omega
/-- a class's words for 'new' -/
def nm_LN (own : String) (i ci : Nat) : Prop := ∃ q : vw_C, sm_cl[ci]? = some q ∧ Cond.classLink own i q.1 ∈ sm_TB ∧ Cond.instantiable q.1 q.2.2 ∈ sm_TB ∧ Cond.initialized q.1 ∈ sm_TB
theorem nm_new {g : nm_G} {pc q i ci n N : Nat} {ls : List (Option Value)} {st : List Value} {dh : List nm_E} {nc ns : Nat} (fs : List Value) (hd : decode g.1.2.1 pc = .ok (.new i, 3)) (hq : pc + 3 = q) (L : nm_LN g.1.1 i ci) (hN : ∀ r, sm_cl[ci]? = some r → r.2.2 = N) (hfs : ∀ j, j < N → defaultValue (sm_tyf ci j) = vp_V fs j) (hcv : ∀ ad, fs.map (sm_cv ad) = fs) (hn : dh.length = n) (h0 : g.2.2.2.2.1 + nc = n) (hp : 0 < n) (hc1 : nc + 1 ≤ g.2.2.1) (hs1 : ns + N ≤ g.2.2.2.1)
    (k : ∀ d1, d1 = dh ++ [.inr (ci, fs)] → nm_J g q ls (.ref n :: st) d1 (nc + 1) (ns + N)) : nm_J g pc ls st dh nc ns := by
  subst hq
  intro p l e s m args below meth c D B cA C H locs la hP hS hL
  obtain ⟨hst, hx, hb, hr, hml, hown, hts, hlk, hin, hB, hK⟩ := id C
  obtain ⟨⟨C0, T0, N0⟩, hc, w1, w2, w3⟩ := L
  have hN0 : N0 = N := hN _ hc
  subst hN0
  have hKn := hK.1.1 ci _ hc
  refine nm_szW hB hn h0 hp hP (fun hz => ?_)
  refine W.newcK (h := B + n) (n := N0) hx hb hown (hts _ w1) (hts _ w2) (hts _ w3) rfl hd hc1 hs1 hKn.2.1 hz (fun H1 kC hkC e1 z1 o1 => ?_)
  have hk : ∀ (k : Nat) (x : Nat × va_E), (nm_ws B cA dh)[k]? = some x → H1[x.1]? = H[x.1]? := fun k x hx => o1 x.1 (by rw [← hz]; exact (hP k x hx).lt)
  have hS1 : va_S (fun q => B ≤ q) s.heap H1 locs := ⟨Nat.le_trans hS.1 (by omega), fun x h1 h2 => (o1 x (by have := hS.1; omega)).trans (hS.2.1 x h1 h2), hS.2.2⟩
  refine k _ rfl p l e s m args below meth c D B cA C H1 locs la ?_ hS1 hL
  rw [nm_push, hn]
  refine (hP.kept hk).app (fun k x hx => ?_)
  have hz9 : k < 1 := (List.getElem?_eq_some_iff.mp hx).1
  rw [show k = 0 by omega] at hx
  cases hx
  refine ⟨_, hc, ?_⟩
  show t_OB _ _ _ _ _ (vp_V (fs.map (sm_cv (fun a => B + a))))
  rw [hcv]
  exact (u_born (sm_tyf ci) hts (sm_in hc) hKn hkC e1 (sm_ty_ok hc)).to hfs
/-- an array of numbers -/
theorem nm_newarray {g : nm_G} {pc q n kd N : Nat} {at9 : ArrayType} {x : Int32} {ls : List (Option Value)} {st : List Value} {dh : List nm_E} {nc ns : Nat} (hd : decode g.1.2.1 pc = .ok (.newarray at9, 2)) (hq : pc + 2 = q) (hw : Cond.arrayClass (newarray.typeOf at9) ∈ sm_TB) (hk : (kd = 0 ∧ at9 = .int) ∨ (kd = 1 ∧ at9 = .char) ∨ (kd = 2 ∧ at9 = .boolean) ∨ (kd = 3 ∧ at9 = .long)) (hx0 : ¬ x < 0) (hxN : x.toNatClampNeg = N) (hN : N ≤ 40000) (hn : dh.length = n) (h0 : g.2.2.2.2.1 + nc = n) (hp : 0 < n) (hc1 : nc + 1 ≤ g.2.2.1) (hs1 : ns + N ≤ g.2.2.2.1)
    (k : ∀ d1, d1 = dh ++ [.inl (kd, N, fun _ => 0, fun _ => 0, [])] → nm_J g q ls (.ref n :: st) d1 (nc + 1) (ns + N)) : nm_J g pc ls (.int x :: st) dh nc ns := by
  subst hq
  intro p l e s m args below meth c D B cA C H locs la hP hS hL
  obtain ⟨hst, hx, hb, hr, hml, hown, hts, hlk, hin, hB, hK⟩ := id C
  have hcb : N * componentBytes (newarray.typeOf at9) ≤ 536870912 := by
    have h8 : componentBytes (newarray.typeOf at9) ≤ 8 := by cases at9 <;> decide
    have := Nat.mul_le_mul hN h8
    omega
  refine nm_szW hB hn h0 hp hP (fun hz => ?_)
  refine va_newaK (h := B + n) hx hb (hts _ hw) rfl hd rfl hx0 hxN hcb hc1 hs1 hz (fun H1 c9 e1 z1 o1 hAr hNm => ?_)
  have hk9 : ∀ (k : Nat) (x : Nat × va_E), (nm_ws B cA dh)[k]? = some x → H1[x.1]? = H[x.1]? := fun k x hx => o1 x.1 (by rw [← hz]; exact (hP k x hx).lt)
  have hS1 : va_S (fun q => B ≤ q) s.heap H1 locs := ⟨Nat.le_trans hS.1 (by omega), fun x h1 h2 => (o1 x (by have := hS.1; omega)).trans (hS.2.1 x h1 h2), hS.2.2⟩
  refine k _ rfl p l e s m args below meth c D B cA C H1 locs la ?_ hS1 hL
  rw [nm_push, hn]
  refine (hP.kept hk9).app (fun k x hx => ?_)
  have hz9 : k < 1 := (List.getElem?_eq_some_iff.mp hx).1
  rw [show k = 0 by omega] at hx
  cases hx
  rcases hk with ⟨rfl, rfl⟩ | ⟨rfl, rfl⟩ | ⟨rfl, rfl⟩ | ⟨rfl, rfl⟩
  · have hc9 : c9 = cA 0 := Option.some.inj (hNm.symm.trans (hK.1.2 0 _ rfl).2)
    rw [hc9] at e1
    exact e1
  · have hc9 : c9 = cA 1 := Option.some.inj (hNm.symm.trans (hK.1.2 1 _ rfl).2)
    rw [hc9] at e1
    exact e1
  · have hc9 : c9 = cA 2 := Option.some.inj (hNm.symm.trans (hK.1.2 2 _ rfl).2)
    rw [hc9] at e1
    exact e1
  · have hc9 : c9 = cA 3 := Option.some.inj (hNm.symm.trans (hK.1.2 3 _ rfl).2)
    rw [hc9] at e1
    exact e1
/-- an array of rows -/
theorem nm_anew {g : nm_G} {pc q n i N : Nat} {x : Int32} {ls : List (Option Value)} {st : List Value} {dh : List nm_E} {nc ns : Nat} (hd : decode g.1.2.1 pc = .ok (.anewarray i, 3)) (hq : pc + 3 = q) (hw : Cond.classLink g.1.1 i "UniversalCycles$Row" ∈ sm_TB) (hx0 : ¬ x < 0) (hxN : x.toNatClampNeg = N) (hN : N ≤ 40000) (hn : dh.length = n) (h0 : g.2.2.2.2.1 + nc = n) (hp : 0 < n) (hc1 : nc + 1 ≤ g.2.2.1) (hs1 : ns + N ≤ g.2.2.2.1)
    (k : ∀ d1, d1 = dh ++ [.inl (4, N, fun _ => 0, fun _ => 0, List.replicate N none)] → nm_J g q ls (.ref n :: st) d1 (nc + 1) (ns + N)) : nm_J g pc ls (.int x :: st) dh nc ns := by
  subst hq
  intro p l e s m args below meth c D B cA C H locs la hP hS hL
  obtain ⟨hst, hx, hb, hr, hml, hown, hts, hlk, hin, hB, hK⟩ := id C
  subst hxN
  refine nm_szW hB hn h0 hp hP (fun hz => ?_)
  refine W.anew hx hb hown (hts _ hw) (va_AO.use hK.2.2.2.2.2.2.2.2.1) rfl hd rfl hx0 (by omega) hc1 hs1 (fun c9 kA comp f1 f2 f3 f4 => ?_)
  rw [hz]
  have o1 : ∀ q : Nat, q < H.size → (H.push { cls := c9, slots := Array.replicate x.toNatClampNeg .null, vm := .none })[q]? = H[q]? := fun q hq => by rw [Array.getElem?_push, if_neg (Nat.ne_of_lt hq)]
  have hk9 : ∀ (k : Nat) (y : Nat × va_E), (nm_ws B cA dh)[k]? = some y → (H.push { cls := c9, slots := Array.replicate x.toNatClampNeg .null, vm := .none })[y.1]? = H[y.1]? := fun k y hy => o1 y.1 (hP k y hy).lt
  refine k _ rfl p l e s m args below meth c D B cA C _ locs la ?_ ⟨Nat.le_trans hS.1 (by rw [Array.size_push]; omega), fun y h1 h2 => (o1 y (by have := hS.1; omega)).trans (hS.2.1 y h1 h2), hS.2.2⟩ hL
  rw [nm_push, hn]
  refine (hP.kept hk9).app (fun k y hy => ?_)
  have hz9 : k < 1 := (List.getElem?_eq_some_iff.mp hy).1
  rw [show k = 0 by omega] at hy
  cases hy
  obtain ⟨kA9, comp9, g1, g2, g3, g4⟩ := (hK.1.2 4 _ rfl).2
  have hc9 : c9 = cA 4 := Option.some.inj (f1.symm.trans g4)
  show (H.push _)[B + n]? = some (vp_cell (cA 4) _)
  rw [← hz, ← hc9]
  simp only [Array.getElem?_push_size]
  congr 1
  have e9 : nm_ar B 4 (fun _ => 0) (fun _ => 0) (List.replicate x.toNatClampNeg none) = .inr (.inr (.inr (.inr (fun _ => none)))) := by
    have hf : (fun j : Nat => (((List.replicate x.toNatClampNeg (none : Option Nat))[j]?).getD none).map (fun r => B + r)) = fun _ => none := by
      funext j
      rw [List.getElem?_replicate]
      by_cases hj : j < x.toNatClampNeg
      · simp [hj]
      · simp [hj]
    show Sum.inr (Sum.inr (Sum.inr (Sum.inr (fun j : Nat => (((List.replicate x.toNatClampNeg (none : Option Nat))[j]?).getD none).map (fun r => B + r))))) = _
    rw [hf]
  rw [e9, vp_cell_q]
  exact arrV_new _ _ _
/-- final reference fields -/
def nm_FF (own : String) (i ci j : Nat) : Prop := ∃ q : vw_C, sm_cl[ci]? = some q ∧ j < q.2.2 ∧ Cond.fieldLink own i (q.2.1 j).1 (q.2.1 j).2.1 (q.2.1 j).2.2.1 ∈ sm_TB ∧ (q.2.1 j).2.2.2 = true ∧ (q.2.1 j).1 = own
theorem nm_putF {g : nm_G} {pc q i a ci j r : Nat} {fs fs1 : List Value} {ls : List (Option Value)} {st : List Value} {dh : List nm_E} {nc ns : Nat} (hd : decode g.1.2.1 pc = .ok (.putfield i, 3)) (hq : pc + 3 = q) (F : nm_FF g.1.1 i ci j) (ha : dh[a]? = some (.inr (ci, fs))) (hj : j < fs.length) (hnr : ∀ x, narrow (sm_tyf ci j) (.ref x) = .ref x ∧ fits (sm_tyf ci j) (.ref x) = true) (hf1 : fs.set j (.ref r) = fs1)
    (k : ∀ d1, d1 = dh.set a (.inr (ci, fs1)) → nm_J g q ls st d1 nc ns) : nm_J g pc ls (.ref r :: .ref a :: st) dh nc ns := by
  subst hq
  subst hf1
  intro p l e s m args below meth c D B cA C H locs la hP hS hL
  obtain ⟨hst, hx, hb, hr, hml, hown, hts, hlk, hin, hB, hK⟩ := id C
  obtain ⟨⟨C0, T0, N0⟩, hc, hj0, hw, hfin, hdecl⟩ := F
  refine va_putF (D := D) (ci := ci) (v := .ref (B + r)) (ty := sm_tyf ci j) (C := C0) (T := T0) (N := N0) hx hb hts (sm_in hc) (sm_tyf ci) (sm_ty_ok hc) (sm_nm_ok hc) hown hK.1 hP nm_D hS a (nm_at ha) hc j hj0 (hts _ hw) (fun _ h9 => h9) hfin hin hdecl (sm_ty_ok hc j hj0) (hnr _).1 (hnr _).2 (by rw [List.length_map]; exact hj) hd (fun H1 locs1 hP1 _ hS1 => ?_)
  refine k _ rfl p l e s m args below meth c D B cA C H1 locs1 la ?_ hS1 hL
  rw [← nm_set ha]
  have e9 : nm_cell B cA (.inr (ci, fs.set j (.ref r))) = .inr (ci, (fs.map (sm_cv (fun a => B + a))).set j (.ref (B + r))) := by
    simp only [nm_cell, List.map_set]
    rfl
  rw [e9]
  exact hP1
theorem nm_puti {g : nm_G} {pc q i a ci j : Nat} {v : Int32} {fs fs1 : List Value} {ls : List (Option Value)} {st : List Value} {dh : List nm_E} {nc ns : Nat} (hd : decode g.1.2.1 pc = .ok (.putfield i, 3)) (hq : pc + 3 = q) (F : sm_FW g.1.1 i ci j) (ha : dh[a]? = some (.inr (ci, fs))) (hj : j < fs.length) (hn : narrow (sm_tyf ci j) (.int v) = .int v) (hfit : fits (sm_tyf ci j) (.int v) = true) (hf1 : fs.set j (.int v) = fs1)
    (k : ∀ d1, d1 = dh.set a (.inr (ci, fs1)) → nm_J g q ls st d1 nc ns) : nm_J g pc ls (.int v :: .ref a :: st) dh nc ns := by
  subst hq
  subst hf1
  intro p l e s m args below meth c D B cA C H locs la hP hS hL
  obtain ⟨hst, hx, hb, hr, hml, hown, hts, hlk, hin, hB, hK⟩ := id C
  obtain ⟨⟨C0, T0, N0⟩, hc, hj0, hw, hfin⟩ := F
  refine va_put (D := D) (ci := ci) (v := .int v) (ty := sm_tyf ci j) (C := C0) (T := T0) (N := N0) hx hb hts (sm_in hc) (sm_tyf ci) (sm_ty_ok hc) (sm_nm_ok hc) hown hK.1 hP nm_D hS a (nm_at ha) hc j hj0 (hts _ hw) (fun _ h9 => h9) hfin (sm_ty_ok hc j hj0) hn hfit (by rw [List.length_map]; exact hj) hd (fun H1 locs1 hP1 _ hS1 => ?_)
  refine k _ rfl p l e s m args below meth c D B cA C H1 locs1 la ?_ hS1 hL
  rw [← nm_set ha]
  have e9 : nm_cell B cA (.inr (ci, fs.set j (.int v))) = .inr (ci, (fs.map (sm_cv (fun a => B + a))).set j (.int v)) := by
    simp only [nm_cell, List.map_set]
    rfl
  rw [e9]
  exact hP1
theorem nm_getr {g : nm_G} {pc q i a ci j r : Nat} {fs : List Value} {ls : List (Option Value)} {st : List Value} {dh : List nm_E} {nc ns : Nat} (hd : decode g.1.2.1 pc = .ok (.getfield i, 3)) (hq : pc + 3 = q) (F : sm_FL g.1.1 i ci j) (ha : dh[a]? = some (.inr (ci, fs))) (hf : fs[j]? = some (.ref r))
    (k : nm_J g q ls (.ref r :: st) dh nc ns) : nm_J g pc ls (.ref a :: st) dh nc ns := by
  subst hq
  intro p l e s m args below meth c D B cA C H locs la hP hS hL
  obtain ⟨hst, hx, hb, hr, hml, hown, hts, hlk, hin, hB, hK⟩ := id C
  obtain ⟨⟨C0, T0, N0⟩, hc, hj0, hw⟩ := F
  exact va_get (D := D) (ci := ci) (v := .ref (B + r)) (C := C0) (T := T0) (N := N0) hx hb hts (sm_in hc) hown hK.1 hP a (nm_at ha) hc j hj0 (hts _ hw) (fun _ h9 => h9) (by rw [List.getElem?_map, hf]; rfl) hd (k p l e s m args below meth c D B cA C H locs la hP hS hL)
theorem nm_aastore {g : nm_G} {pc q a b n kk : Nat} {x : Int32} {rs rs1 : List (Option Nat)} {fi : Nat → Int32} {fl : Nat → Int64} {fs : List Value} {ls : List (Option Value)} {st : List Value} {dh : List nm_E} {nc ns : Nat} (hd : decode g.1.2.1 pc = .ok (.aastore, 1)) (hq : pc + 1 = q) (ha : dh[a]? = some (.inl (4, n, fi, fl, rs))) (hb9 : dh[b]? = some (.inr (7, fs))) (hx9 : vp_in x n) (hxk : x.toNatClampNeg = kk) (hkl : kk < rs.length) (hr1 : rs.set kk (some b) = rs1)
    (k : ∀ d1, d1 = dh.set a (.inl (4, n, fi, fl, rs1)) → nm_J g q ls st d1 nc ns) : nm_J g pc ls (.ref b :: .int x :: .ref a :: st) dh nc ns := by
  subst hq
  subst hr1
  subst hxk
  intro p l e s m args below meth c D B cA C H locs la hP hS hL
  obtain ⟨hst, hx, hb, hr, hml, hown, hts, hlk, hin, hB, hK⟩ := id C
  refine va_astq (r := (RX7, TX7, 2)) hx hb hK.1 hP nm_D hS a 4 b 7 (nm_at ha) rfl (nm_at hb9) rfl hx9 hd (fun H1 locs1 hP1 _ hS1 => ?_)
  refine k _ rfl p l e s m args below meth c D B cA C H1 locs1 la ?_ hS1 hL
  rw [← nm_set ha]
  have e9 : nm_cell B cA (.inl (4, n, fi, fl, rs.set x.toNatClampNeg (some b))) = .inl (cA 4, n, .inr (.inr (.inr (.inr (va_up (fun i => ((rs[i]?).getD none).map (fun r => B + r)) x.toNatClampNeg (some (B + b))))))) := by
    have hf : (fun i : Nat => (((rs.set x.toNatClampNeg (some b))[i]?).getD none).map (fun r => B + r)) = va_up (fun i => ((rs[i]?).getD none).map (fun r => B + r)) x.toNatClampNeg (some (B + b)) := by
      funext i
      by_cases hi : i = x.toNatClampNeg
      · subst hi
        rw [List.getElem?_set_self hkl]
        simp [va_up]
      · rw [List.getElem?_set_ne (Ne.symm hi)]
        simp [va_up, hi]
    show Sum.inl (cA 4, n, nm_ar B 4 fi fl _) = _
    rw [← hf]
    rfl
  rw [e9]
  exact hP1
/-- a maker's words: called by a nest mate, or by a plain link -/
def nm_LI (y : MethodName) (md : sm_Md) : Prop := Cond.instanceMethod y ∈ sm_TB ∧ Cond.initialized y.cls ∈ sm_TB ∧ Cond.code y md.2.1 md.2.2.1 md.2.2.2 ∈ sm_TB ∧ md.2.2.1 ≤ 40 ∧ md.2.2.2 = none ∧ y.name = "<init>" ∧ (y.cls ≠ "java/lang/invoke/MethodHandle" ∧ y.cls ≠ "java/lang/invoke/VarHandle" ∧ (parseMethodDescriptor y.desc).map (fun d => d.parameters.length) = some 0)
theorem nm_blind {D : va_G} {B : Nat} {cA : Nat → ClassId} {av : List Value} {dh : List nm_E} : FrameBlind (nm_Pc D B cA av dh) := by
  intro a U g mk h
  obtain ⟨h1, h2, h3, h4⟩ := h
  exact ⟨h1, h2, h3, nm_K.go (s := U) (U := U.calling g mk a) (H := U.heap) (locs := []) h4 va_S.rf rfl (State.WarmedH.refl U)⟩
theorem nm_callI {g : nm_G} {pc q i b n d' mc' ms' : Nat} {ls : List (Option Value)} {st : List Value} {dh d9 : List nm_E} {nc ns : Nat} {y : MethodName} {md : sm_Md} (hd : decode g.1.2.1 pc = .ok (.invokespecial i, 3)) (hq : pc + 3 = q) (hl : (g.1.1, i, y) ∈ nm_nest ∨ Cond.methodLink g.1.1 i y ∈ sm_TB) (L : nm_LI y md) (hw : (st.map fun v => v.category).sum ≤ 8) (hdd : d' < g.2.1) (hn : dh.length = n) (h0 : g.2.2.2.2.1 + nc = n) (hp : 0 < n) (hc1 : nc + mc' ≤ g.2.2.1) (hs1 : ns + ms' ≤ g.2.2.2.1)
    (h : nm_Ct y md d' mc' ms' [.ref b] dh d9) (k : ∀ d1, d1 = d9 → nm_J g q ls st d1 (nc + mc') (ns + ms')) : nm_J g pc ls (.ref b :: st) dh nc ns := by
  subst hq
  intro p l e s m args below meth c D B cA C H locs la hP hS hL
  obtain ⟨hst, hx, hb, hr, hml, hown, hts, hlk, hin, hB, hK⟩ := id C
  obtain ⟨w2, w4, w5, hmx, hret, hy1, hnm⟩ := L
  have h6 : ((st.map (sm_cv (fun a => B + a))).map fun v => v.category).sum ≤ 8 := by
    rw [List.map_map]
    simpa [Function.comp_def, sm_cat] using hw
  intro T hT X
  have hz := nm_size X hT hB hn h0 hp hP
  have hM := h l D B cA hst
  rw [hret] at hM w5
  have pre : PreS s H (nm_Pc D B cA [.ref b] dh) (.ref (B + b) :: []) := ⟨nm_blind, fun U hU hW => ⟨rfl, by rw [hU, hz, hn], by rw [hU]; exact hP, hK.go hS hU hW⟩⟩
  have hR1 : (nm_rm d' mc' ms').frames + 1 ≤ (nm_rm g.2.1 g.2.2.1 g.2.2.2.1).frames := by show d' + 1 ≤ g.2.1; omega
  have hR2 : 8 + (md.2.2.1 + 11) + (nm_rm d' mc' ms').locals ≤ (nm_rm g.2.1 g.2.2.1 g.2.2.2.1).locals := by show 8 + (md.2.2.1 + 11) + 64 * d' ≤ 64 * g.2.1; omega
  have hrun : va_Run p l e (nm_rm g.2.1 g.2.2.1 g.2.2.2.1) s m args below meth c H locs nc ns mc' ms' (F0 m pc la (.ref (B + b) :: st.map (sm_cv (fun a => B + a)))) (st.map (sm_cv (fun a => B + a))) (nm_Qc D B cA d9 (Value.ref (B + b) :: []).toArray) (fun q => B ≤ q) := by
    rcases hl with hl | hl
    · exact va_runIN (As := []) (Ts := sm_TB) (host := "UniversalCycles") ⟨hx, hb, hml, hown, hts⟩ hM ⟨va_cnB 0 hts (sm_good w5 rfl (fun _ h => h)) rfl rfl rfl (hK.2.2.2.2.2.2.2.1 _ hl) (hts _ w4) hnm ⟨hR1, hR2⟩, hy1, hts _ w2⟩ pre rfl rfl hL.1 rfl (lv_room h6) hd ⟨hc1, hs1⟩
    · exact va_runI (As := []) (Ts := sm_TB) ⟨hx, hb, hml, hown, hts⟩ hM ⟨callB_of 0 hts (sm_good w5 rfl (fun _ h => h)) rfl rfl rfl (hts _ w4) (hts _ hl) hnm ⟨hR1, hR2⟩, hy1, hts _ w2⟩ pre rfl rfl hL.1 rfl (lv_room h6) hd ⟨hc1, hs1⟩
  obtain ⟨v', st₀, t, T', L, g0, X', hLl, e1, e2, ⟨⟨hv1, hP1⟩, hF⟩, stp⟩ := hrun T hT X
  cases hv1
  obtain ⟨k1, k2, k3⟩ := vx_keep g0 e1 hS (fun q _ h => h) (fun q h => h) hLl hF
  obtain ⟨t2, a1, b1⟩ := k _ rfl p l e s m args below meth c D B cA C T'.heap (locs ++ L) la (by rw [e1]; exact hP1) k3 hL T' rfl X'
  exact ⟨t2, stp t2 a1, b1⟩
theorem nm_ret {g : nm_G} {pc : Nat} {ls : List (Option Value)} {dh : List nm_E} {nc ns : Nat} (hd : decode g.1.2.1 pc = .ok (.return_, 1)) (hc : nc = g.2.2.1) (hs : ns = g.2.2.2.1) (he : dh = g.2.2.2.2.2) : nm_J g pc ls [] dh nc ns := by
  subst hc
  subst hs
  intro p l e s m args below meth c D B cA C H locs la hP hS hL
  obtain ⟨hst, hx, hb, hr, hml, hown, hts, hlk, hin, hB, hK⟩ := id C
  exact W.vret hx hb hr (fun t ht hW => ⟨⟨rfl, by rw [ht, ← he]; exact hP⟩, hS.F ht⟩) hS.2.2 hd
theorem nm_enter {y : MethodName} {md : sm_Md} {d mc ms n : Nat} {dh dh' : List nm_E} {a : Nat} (k : Nat) {ls0 : List (Option Value)} (hy : plainName y.cls = true) (hown : md.1 = y.cls) (hret : md.2.2.2 = none) (hin : y.name = "<init>") (hl : 1 ≤ md.2.2.1) (hls : some (Value.ref a) :: List.replicate k none = ls0) (hn : dh.length = n) (h : nm_J (md, d, mc, ms, n, dh') 0 ls0 [] dh 0 0) : nm_Ct y md d mc ms [.ref a] dh dh' := by
  intro l D B cA hst
  refine Met.ofW (cc := md.2.1) (maxL := md.2.2.1) (ret := md.2.2.2) hy rfl ?_
  intro p e s m args below meth c s₁ Bd hml hv
  obtain ⟨rfl, hsz, hP, hK⟩ := hv
  have hts := atoms_spec (ws := Cond.code y md.2.1 md.2.2.1 md.2.2.2 :: sm_TB) Bd.pre
  have hown' : s.vm.findClass y.cls = some m.cls := findClass_of_methodNamed Bd.named
  have hin' : meth.name = "<init>" := by
    have := (name_of_methodNamed Bd.named Bd.method).1
    rw [this, hin]
  have he := lv_entry ([.ref a].map (sm_cv (fun a => B + a))) (n := md.2.2.1) (by simpa [lg_sl, sm_cv, Value.category] using hl)
  rw [lg_entry_eq]
  refine h p l e s m _ below meth c D B cA ⟨hst, Bd.exec, Bd.bytes, by rw [Bd.returns]; exact hret, hml, by show s.vm.findClass md.1 = _; rw [hown]; exact hown', fun w hw => hts w (List.mem_cons_of_mem _ hw), Bd.notSynchronized, hin', by rw [hsz, hn], hK⟩ s.heap [] _ hP va_S.rf ⟨he.1, he.2.1, fun q hq => he.2.2 q ?_⟩
  obtain ⟨u, h1, h2⟩ := sm_lvm.mp hq
  rw [← hls] at h1
  have := sm_lsa (fun a => B + a) k [.ref a] 0 q.1 u (by simpa [sm_ls, Value.category] using h1)
  rw [Nat.zero_add, ← h2] at this
  exact this

/-- 'new long[7][7]' -/
theorem nm_app {B : Nat} {cA : Nat → ClassId} {dh l : List nm_E} : nm_ws B cA (dh ++ l) = nm_ws B cA dh ++ l.mapIdx (fun i e => (B + (dh.length + i), nm_cell B cA e)) := by
  unfold nm_ws
  rw [List.mapIdx_append]
  congr 1
  apply List.mapIdx_eq_mapIdx_iff.mpr
  intro i hi
  rw [Nat.add_comm i dh.length]
abbrev nm_m7 (n : Nat) : List nm_E := [.inl (5, 7, fun _ => 0, fun _ => 0, [some (n + 1), some (n + 2), some (n + 3), some (n + 4), some (n + 5), some (n + 6), some (n + 7)]), .inl (3, 7, fun _ => 0, fun _ => 0, []), .inl (3, 7, fun _ => 0, fun _ => 0, []), .inl (3, 7, fun _ => 0, fun _ => 0, []), .inl (3, 7, fun _ => 0, fun _ => 0, []), .inl (3, 7, fun _ => 0, fun _ => 0, []), .inl (3, 7, fun _ => 0, fun _ => 0, []), .inl (3, 7, fun _ => 0, fun _ => 0, [])]
theorem nm_outer (c : ClassId) (N h0 : Nat) : ∀ i : Nat, Jvm.Free.Multi.outerC c N h0 i = arrV c N (fun j => va_rf (if j < i then some (h0 + 1 + j) else none))
  | 0 => by
    show ({ cls := c, slots := Array.replicate N .null, vm := .none } : Cell) = _
    rw [arrV_new]
    refine congrArg (arrV c N) (funext fun j => ?_)
    simp [va_rf]
  | i + 1 => by
    show (Jvm.Free.Multi.outerC c N h0 i).setSlot i (.ref (h0 + 1 + i)) = _
    rw [nm_outer c N h0 i, arrV_store]
    refine congrArg (arrV c N) (funext fun j => ?_)
    by_cases e : j = i
    · subst e
      simp [updV, va_rf]
    · by_cases h : j < i
      · simp [updV, e, h, Nat.lt_succ_of_lt h]
      · simp [updV, e, h, show ¬ j < i + 1 by omega]
set_option maxHeartbeats 4000000 in
theorem nm_multi {g : nm_G} {pc q n i : Nat} {ls : List (Option Value)} {st : List Value} {dh : List nm_E} {nc ns : Nat} (hd : decode g.1.2.1 pc = .ok (.multianewarray i 2, 4)) (hq : pc + 4 = q) (hw : Cond.classLink g.1.1 i ("[" ++ (FieldType.array .long).toString) ∈ sm_TB) (hw2 : Cond.arrayClass .long ∈ sm_TB) (hn : dh.length = n) (h0 : g.2.2.2.2.1 + nc = n) (hp : 0 < n) (hc1 : nc + 8 ≤ g.2.2.1) (hs1 : ns + 56 ≤ g.2.2.2.1)
    (k : ∀ d1, d1 = dh ++ nm_m7 n → nm_J g q ls (.ref n :: st) d1 (nc + 8) (ns + 56)) : nm_J g pc ls (.int 7 :: .int 7 :: st) dh nc ns := by
  subst hq
  intro p l e s m args below meth c D B cA C H locs la hP hS hL
  obtain ⟨hst, hx, hb, hr, hml, hown, hts, hlk, hin, hB, hK⟩ := id C
  refine nm_szW hB hn h0 hp hP (fun hz => ?_)
  intro T hT X
  have h7 : (7 : Int32).toNatClampNeg = 7 := by decide
  obtain ⟨vm₁, c5, comp, -, fA, fC, hO, -, X', step⟩ := X.multianewarray2F hx hown (hts _ hw) (ty := .long) hK.2.2.2.2.2.2.2.2.2 (hts _ hw2) (g := F0 m pc la ((.int 7 :: .int 7 :: st).map (sm_cv (fun a => B + a)))) rfl (by rw [hb]; exact hd) rfl (by decide) (by decide) (by rw [h7]; decide) (by rw [h7]; decide) (by rw [h7]; decide) rfl rfl (by rw [h7]; exact hc1) (by rw [h7]; exact hs1)
  rw [h7] at X' step
  generalize hF : Jvm.Free.Multi.fill (T.setVm vm₁) c5 comp 7 7 (defaultValue .long) 7 = F at X' step
  have hTh : (T.setVm vm₁).heap = H := hT
  obtain ⟨f1, f2, -, -⟩ := Jvm.Free.Multi.fill_facts (T.setVm vm₁) c5 comp 7 7 (defaultValue .long) 7
  rw [hF, hTh] at f1 f2
  have hold : ∀ x : Nat, x < H.size → F.heap[x]? = H[x]? := fun x hx => by
    have := Jvm.Free.Multi.fill_old (T.setVm vm₁) c5 comp 7 7 (defaultValue .long) (a := x) (by rw [hTh]; exact hx) 7
    rw [hF, hTh] at this
    exact this
  have hrow : ∀ j : Nat, j < 7 → F.heap[H.size + 1 + j]? = some (Jvm.Free.Multi.innerC comp 7 (defaultValue .long)) := fun j hj => by
    have := Jvm.Free.Multi.fill_inner (T.setVm vm₁) c5 comp 7 7 (defaultValue .long) 7 j hj
    rw [hF, hTh] at this
    exact this
  have e5 : c5 = cA 5 := Option.some.inj (fA.symm.trans (hK.1.2 5 _ rfl).2)
  have e3 : comp = cA 3 := Option.some.inj (fC.symm.trans (hK.1.2 3 _ rfl).2)
  subst e5
  subst e3
  rw [nm_outer, hz] at f2
  rw [hz] at hrow
  have hS1 : va_S (fun q => B ≤ q) s.heap F.heap locs := ⟨by rw [f1]; have := hS.1; omega, fun x h1 h2 => (hold x (by have := hS.1; omega)).trans (hS.2.1 x h1 h2), hS.2.2⟩
  have hP1 : va_P D sm_cl (nm_ws B cA (dh ++ nm_m7 n)) F.heap := by
    rw [nm_app]
    refine (hP.kept (fun k x hx => hold x.1 (hP k x hx).lt)).app (fun k x hx => ?_)
    rw [List.getElem?_mapIdx, hn] at hx
    have hin9 : ∀ j, j < 7 → F.heap[B + (n + (j + 1))]? = some (vp_cell (cA 3) (7, .inr (.inl (fun _ => 0)))) := fun j hj => by
      have := hrow j hj
      rw [show B + (n + (j + 1)) = B + n + 1 + j by omega, this]
      rw [vp_cell_l, ← arrV_new]
      rfl
    match k, hx with
    | 0, hx =>
      cases hx
      show F.heap[B + (n + 0)]? = some (vp_cell (cA 5) (7, nm_ar B 5 _ _ _))
      rw [Nat.add_zero, f2]
      have hf : (fun j : Nat => (((([some (n + 1), some (n + 2), some (n + 3), some (n + 4), some (n + 5), some (n + 6), some (n + 7)] : List (Option Nat)))[j]?).getD none).map (fun r => B + r)) = fun j => if j < 7 then some (B + n + 1 + j) else none := by
        funext j
        match j with
        | 0 => simp; omega
        | 1 => simp; omega
        | 2 => simp; omega
        | 3 => simp; omega
        | 4 => simp; omega
        | 5 => simp; omega
        | 6 => simp; omega
        | j + 7 => simp
      have e9 : nm_ar B 5 (fun _ => 0) (fun _ => 0) [some (n + 1), some (n + 2), some (n + 3), some (n + 4), some (n + 5), some (n + 6), some (n + 7)] = .inr (.inr (.inr (.inr (fun j => if j < 7 then some (B + n + 1 + j) else none)))) := by
        show Sum.inr (Sum.inr (Sum.inr (Sum.inr (fun j : Nat => (((([some (n + 1), some (n + 2), some (n + 3), some (n + 4), some (n + 5), some (n + 6), some (n + 7)] : List (Option Nat)))[j]?).getD none).map (fun r => B + r))))) = _
        rw [hf]
      rw [e9, vp_cell_q]
    | 1, hx => cases hx; exact hin9 0 (by omega)
    | 2, hx => cases hx; exact hin9 1 (by omega)
    | 3, hx => cases hx; exact hin9 2 (by omega)
    | 4, hx => cases hx; exact hin9 3 (by omega)
    | 5, hx => cases hx; exact hin9 4 (by omega)
    | 6, hx => cases hx; exact hin9 5 (by omega)
    | 7, hx => cases hx; exact hin9 6 (by omega)
    | k + 8, hx => simp at hx
  obtain ⟨t, a1, b1⟩ := k _ rfl p l e s m args below meth c D B cA C F.heap locs la hP1 hS1 hL F rfl X'
  refine ⟨t, step t ?_, b1⟩
  have e : T.heap.size = B + n := by rw [hT]; exact hz
  rw [e]
  exact a1
/-- a call in the static world, at a constructor's end -/
theorem nm_callV {g : nm_G} {pc q i a ci d' : Nat} {ls : List (Option Value)} {stk : List Value} (st : List Value) {dh : List nm_E} {nc ns : Nat} {sk : List sm_Sh} {M M1 : sm_M} {y : MethodName} {md : sm_Md} (av : List Value) {fs : List (Option Nat)} {r : vw_C}
    (hd : decode g.1.2.1 pc = .ok (.invokevirtual i, 3)) (hq : pc + 3 = q) (L : sm_LV g.1.1 i y md av.length) (hdy : dh = nm_dy sk M) (ha : sk[a]? = some (.inr (ci, fs))) (hc : sm_cl[ci]? = some r) (hy : r.1 = y.cls) (hs : stk = av.reverse ++ .ref a :: st) (hw : (st.map fun v => v.category).sum ≤ 8) (hdd : d' < g.2.1) (hc1 : nc ≤ g.2.2.1) (hs1 : ns ≤ g.2.2.2.1)
    (h : sm_Ct y md d' sk (.ref a :: av) M (.inl none) M1) (k : nm_J g q ls st (nm_dy sk M1) nc ns) : nm_J g pc ls stk dh nc ns := by
  subst hq
  subst hdy
  intro p l e s m args below meth c D B cA C H locs la hP hS hL
  obtain ⟨hst, hx, hb, hr, hml, hown, hts, hlk, hin, hB, hK⟩ := id C
  rw [nm_dyw] at hP
  obtain ⟨w1, w2, w3, w4, w5, hmx, hnm⟩ := L
  obtain ⟨cell, r1, r2, r3⟩ := va_recv hK.1 hP hc (sm_at ha)
  have h6 : ((st.map (sm_cv (fun a => B + a))).map fun v => v.category).sum ≤ 8 := by
    rw [List.map_map]
    simpa [Function.comp_def, sm_cat] using hw
  have hrun := vx_runV (p := p) (e := e) (R := nm_rm g.2.1 g.2.2.1 g.2.2.2.1) (below := below) (meth := meth) (H := H) (locs := locs) (cells := nc) (slots := ns) (g := F0 m pc la (stk.map (sm_cv (fun a => B + a)))) (As := av.map (sm_cv (fun a => B + a))) (rest := st.map (sm_cv (fun a => B + a))) (b := B + a) (Ts := sm_TB) (C := y.cls) (bytes := md.2.1) (maxL := md.2.2.1) (ret := md.2.2.2) (n := av.length) ⟨hx, hb, hml, hown, hts⟩ (h l D (fun a => B + a) cA H.size hst) ⟨callB_of av.length hts (sm_good w5 rfl (fun _ h => h)) rfl rfl rfl (hts _ w4) (hts _ w1) hnm ⟨by show d' + 1 ≤ g.2.1; omega, by show 8 + (md.2.2.1 + 11) + 64 * d' ≤ 64 * g.2.1; omega⟩, hts _ w2, hts _ w3⟩ ⟨sm_blind, ⟨cell, r1, r2, by rw [← hy]; exact r3⟩, fun U hU hW => ⟨rfl, by rw [hU], by rw [hU]; exact hP, (hK.go hS hU hW).sm _⟩⟩ rfl (List.length_map _) hL.1 (by show stk.map _ = _; rw [hs]; simp [sm_cv]) (lv_room h6) hd ⟨by show nc + 0 ≤ g.2.2.1; omega, by show ns + 6 * 0 ≤ g.2.2.2.1; omega⟩
  intro T hT X
  rcases hrun T hT X with ⟨v', st₀, t, T', L, g0, X', hLl, e1, e2, ⟨⟨v2, hv1, hv2, hP1⟩, hF⟩, stp⟩ | ⟨q, st₀, t, T', L, E, ce, g0, X', hLl, e1, e2, ⟨hbad, -⟩, -⟩
  · cases hv1
    cases hv2
    have hup : ∀ q, sm_A (fun a => B + a) sk.length H.size q → B ≤ q := fun q h9 => by
      rcases h9 with ⟨a9, -, e9⟩ | h9
      · have e' : q = B + a9 := e9
        omega
      · have := hS.1
        omega
    obtain ⟨k1, k2, k3⟩ := vx_keep g0 e1 hS (fun q _ h => hup q h) (fun q h => hup q h) hLl hF
    obtain ⟨t2, a1, b1⟩ := k p l e s m args below meth c D B cA C T'.heap (locs ++ L) la (by rw [nm_dyw, e1]; exact hP1) k3 hL T' rfl X'
    exact ⟨t2, stp t2 a1, b1⟩
  · cases hbad

