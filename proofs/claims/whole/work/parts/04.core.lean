/-! ===== the static world: a memory of int and long slots over a fixed skeleton of objects and arrays (sm_) ===== -/
/-- a thing of the skeleton: an array (kind, length, what a row of references refers to), or an object (class, its fields: none = an int slot, some r = a fixed reference) -/
abbrev sm_Sh : Type := (Nat × Nat × List Nat) ⊕ (Nat × List (Option Nat))
abbrev sm_M : Type := (Nat → Nat → Int32) × (Nat → Nat → Int64)
abbrev sm_cl : List vw_C := [(RX0, TX0, 1), (RX1, TX1, 3), (RX2, TX2, 4), (RX3, TX3, 3), (RX4, TX4, 12), (RX5, TX5, 1), (RX6, TX6, 3), (RX7, TX7, 2), (RX8, TX8, 5), (RX9, TX9, 1), (RX10, TX10, 8), (RX11, TX11, 18), (RX12, TX12, 36)]
def sm_tyf (ci : Nat) : Nat → FieldType := match ci with
  | 0 => tyX0
  | 1 => tyX1
  | 2 => tyX2
  | 3 => tyX3
  | 4 => tyX4
  | 5 => tyX5
  | 6 => tyX6
  | 7 => tyX7
  | 8 => tyX8
  | 9 => tyX9
  | 10 => tyX10
  | 11 => tyX11
  | _ => tyX12
/-- kinds of arrays: 0 int, 1 char, 2 boolean, 3 long, 4 rows of Row, 5 rows of long[] -/
def sm_tys (cA : Nat → ClassId) : List (ClassId × FieldType) := [(cA 0, .int), (cA 1, .char), (cA 2, .boolean), (cA 3, .long), (cA 4, .object "UniversalCycles$Row"), (cA 5, .array .long)]
theorem sm_tys_at (cA : Nat → ClassId) {k : Nat} (h : k < 6) : ∃ ty, (sm_tys cA)[k]? = some (cA k, ty) := by
  match k, h with
  | 0, _ => exact ⟨_, rfl⟩
  | 1, _ => exact ⟨_, rfl⟩
  | 2, _ => exact ⟨_, rfl⟩
  | 3, _ => exact ⟨_, rfl⟩
  | 4, _ => exact ⟨_, rfl⟩
  | 5, _ => exact ⟨_, rfl⟩
  | n + 6, h => exact absurd h (by omega)
def sm_fv (ad : Nat → Nat) (M : sm_M) (a j : Nat) : Option Nat → Value
  | none => .int (M.1 a j)
  | some r => .ref (ad r)
def sm_arr (ad : Nat → Nat) (M : sm_M) (a k : Nat) (rs : List Nat) : (Nat → Int32) ⊕ (Nat → Int64) ⊕ (Nat → UInt32) ⊕ (Nat → UInt64) ⊕ (Nat → Option Nat) :=
  if k < 3 then .inl (M.1 a) else if k = 3 then .inr (.inl (M.2 a)) else .inr (.inr (.inr (.inr (fun i => (rs[i]?).map ad))))
def sm_cell (ad : Nat → Nat) (cA : Nat → ClassId) (M : sm_M) (a : Nat) : sm_Sh → va_E
  | .inl (k, n, rs) => .inl (cA k, n, sm_arr ad M a k rs)
  | .inr (ci, fs) => .inr (ci, fs.mapIdx (sm_fv ad M a))
def sm_ws (ad : Nat → Nat) (cA : Nat → ClassId) (sk : List sm_Sh) (M : sm_M) : va_W := sk.mapIdx (fun a sh => (ad a, sm_cell ad cA M a sh))
def sm_mi (M : sm_M) (a j : Nat) (v : Int32) : sm_M := (fun b i => if b = a ∧ i = j then v else M.1 b i, M.2)
def sm_ml (M : sm_M) (a j : Nat) (v : Int64) : sm_M := (M.1, fun b i => if b = a ∧ i = j then v else M.2 b i)
theorem sm_at {ad : Nat → Nat} {cA : Nat → ClassId} {sk : List sm_Sh} {M : sm_M} {a : Nat} {sh : sm_Sh} (h : sk[a]? = some sh) : (sm_ws ad cA sk M)[a]? = some (ad a, sm_cell ad cA M a sh) := by
  unfold sm_ws
  rw [List.getElem?_mapIdx, h]
  rfl
theorem sm_ix {ad : Nat → Nat} {cA : Nat → ClassId} {sk : List sm_Sh} {M : sm_M} {k : Nat} {q : Nat × va_E} (h : (sm_ws ad cA sk M)[k]? = some q) : k < sk.length ∧ q.1 = ad k := by
  unfold sm_ws at h
  rw [List.getElem?_mapIdx] at h
  cases hs : sk[k]? with
  | none => rw [hs] at h; cases h
  | some sh =>
    rw [hs] at h
    cases h
    exact ⟨(List.getElem?_eq_some_iff.mp hs).1, rfl⟩
theorem sm_cell_eq {ad : Nat → Nat} {cA : Nat → ClassId} {M M' : sm_M} {a : Nat} (h1 : M'.1 a = M.1 a) (h2 : M'.2 a = M.2 a) (sh : sm_Sh) : sm_cell ad cA M' a sh = sm_cell ad cA M a sh := by
  have e : sm_fv ad M' a = sm_fv ad M a := by
    funext j f
    cases f with
    | none => simp only [sm_fv, h1]
    | some r => rfl
  match sh with
  | .inl (k, n, rs) => simp only [sm_cell, sm_arr, h1, h2]
  | .inr (ci, fs) => simp only [sm_cell, e]
theorem sm_set {ad : Nat → Nat} {cA : Nat → ClassId} {sk : List sm_Sh} {M M' : sm_M} {a : Nat} {sh : sm_Sh} (h : sk[a]? = some sh) (h1 : ∀ b, b ≠ a → M'.1 b = M.1 b) (h2 : ∀ b, b ≠ a → M'.2 b = M.2 b) :
    (sm_ws ad cA sk M).set a (ad a, sm_cell ad cA M' a sh) = sm_ws ad cA sk M' := by
  apply List.ext_getElem?
  intro i
  by_cases hi : i = a
  · subst hi
    have hl := (List.getElem?_eq_some_iff.mp (sm_at (ad := ad) (cA := cA) (M := M) h)).1
    rw [List.getElem?_set_self hl, sm_at h]
  · rw [List.getElem?_set_ne (Ne.symm hi)]
    cases hs : sk[i]? with
    | none =>
      unfold sm_ws
      rw [List.getElem?_mapIdx, List.getElem?_mapIdx, hs]
      rfl
    | some sh' => rw [sm_at hs, sm_at hs, sm_cell_eq (h1 i hi) (h2 i hi)]
theorem sm_mi_at (M : sm_M) (a j : Nat) (v : Int32) : (sm_mi M a j v).1 a = upd (M.1 a) j v := by
  funext i
  simp [sm_mi, upd]
theorem sm_ml_at (M : sm_M) (a j : Nat) (v : Int64) : (sm_ml M a j v).2 a = vp_updL (M.2 a) j v := by
  funext i
  simp [sm_ml, vp_updL]
theorem sm_mi_ne (M : sm_M) (a j : Nat) (v : Int32) (b : Nat) (h : b ≠ a) : (sm_mi M a j v).1 b = M.1 b := by
  funext i
  simp [sm_mi, h]
theorem sm_ml_ne (M : sm_M) (a j : Nat) (v : Int64) (b : Nat) (h : b ≠ a) : (sm_ml M a j v).2 b = M.2 b := by
  funext i
  simp [sm_ml, h]
theorem sm_puta {ad : Nat → Nat} {cA : Nat → ClassId} {sk : List sm_Sh} {M : sm_M} {a k n j : Nat} {rs : List Nat} {v : Int32} (h : sk[a]? = some (.inl (k, n, rs))) (hk : k < 3) :
    (sm_ws ad cA sk M).set a (ad a, .inl (cA k, n, .inl (upd (M.1 a) j v))) = sm_ws ad cA sk (sm_mi M a j v) := by
  rw [← sm_set (M := M) (M' := sm_mi M a j v) h (sm_mi_ne M a j v) (fun _ _ => rfl)]
  simp only [sm_cell, sm_arr, if_pos hk, sm_mi_at]
theorem sm_putl {ad : Nat → Nat} {cA : Nat → ClassId} {sk : List sm_Sh} {M : sm_M} {a n j : Nat} {rs : List Nat} {v : Int64} (h : sk[a]? = some (.inl (3, n, rs))) :
    (sm_ws ad cA sk M).set a (ad a, .inl (cA 3, n, .inr (.inl (vp_updL (M.2 a) j v)))) = sm_ws ad cA sk (sm_ml M a j v) := by
  rw [← sm_set (M := M) (M' := sm_ml M a j v) h (fun _ _ => rfl) (sm_ml_ne M a j v)]
  simp [sm_cell, sm_arr, sm_ml_at]
theorem sm_putf {ad : Nat → Nat} {cA : Nat → ClassId} {sk : List sm_Sh} {M : sm_M} {a ci j : Nat} {fs : List (Option Nat)} {v : Int32} (h : sk[a]? = some (.inr (ci, fs))) (hf : fs[j]? = some none) :
    (sm_ws ad cA sk M).set a (ad a, .inr (ci, (fs.mapIdx (sm_fv ad M a)).set j (.int v))) = sm_ws ad cA sk (sm_mi M a j v) := by
  rw [← sm_set (M := M) (M' := sm_mi M a j v) h (sm_mi_ne M a j v) (fun _ _ => rfl)]
  have e : (fs.mapIdx (sm_fv ad M a)).set j (.int v) = fs.mapIdx (sm_fv ad (sm_mi M a j v) a) := by
    apply List.ext_getElem?
    intro i
    by_cases hi : i = j
    · subst hi
      have hl : i < (fs.mapIdx (sm_fv ad M a)).length := by rw [List.length_mapIdx]; exact (List.getElem?_eq_some_iff.mp hf).1
      rw [List.getElem?_set_self hl, List.getElem?_mapIdx, hf]
      simp [sm_fv, sm_mi]
    · rw [List.getElem?_set_ne (Ne.symm hi), List.getElem?_mapIdx, List.getElem?_mapIdx]
      cases hs : fs[i]? with
      | none => rfl
      | some f =>
        cases f with
        | none => simp [sm_fv, sm_mi, hi]
        | some r => simp [sm_fv]
  simp only [sm_cell, e]
/-- the cells that a method may change: the skeleton's, and new ones -/
def sm_A (ad : Nat → Nat) (n sz : Nat) : Nat → Prop := fun q => (∃ a, a < n ∧ q = ad a) ∨ sz ≤ q
def sm_ad (ad : Nat → Nat) (n : Nat) : Nat → Prop := fun q => ∃ a, a < n ∧ q = ad a
theorem sm_D {ad : Nat → Nat} {cA : Nat → ClassId} {sk : List sm_Sh} {M : sm_M} {sz : Nat} (hi : ∀ i j, i < sk.length → j < sk.length → ad i = ad j → i = j) : va_D (sm_A ad sk.length sz) (sm_ws ad cA sk M) := by
  refine ⟨fun i j x y h1 h2 h3 => ?_, fun k q h => ?_⟩
  · obtain ⟨a1, a2⟩ := sm_ix h1
    obtain ⟨b1, b2⟩ := sm_ix h2
    exact hi i j a1 b1 (by rw [← a2, ← b2]; exact h3)
  · obtain ⟨a1, a2⟩ := sm_ix h
    exact Or.inl ⟨k, a1, a2⟩
/-! the tables' words that a callee may take over -/
def sm_TB : List Cond := lw_tbl.filter goodWord
theorem sm_w {w : Cond} (h : w ∈ lw_tbl) (hg : goodWord w = true) : w ∈ sm_TB := List.mem_filter.mpr ⟨h, hg⟩
theorem sm_good {w0 : Cond} {ws : List Cond} (h0 : w0 ∈ sm_TB) (h1 : ws = w0 :: sm_TB) {big : List Cond} (hb : ∀ w ∈ sm_TB, w ∈ big) : GoodIn big ws := by
  intro w hw
  have h2 : w ∈ sm_TB := by
    rw [h1] at hw
    rcases List.mem_cons.mp hw with h | h
    · rw [h]; exact h0
    · exact h
  exact ⟨hb w h2, good_of_word (List.mem_filter.mp h2).2⟩
theorem sm_in0 : ∀ q ∈ sm_cl, ∀ w ∈ u_ws q.1 q.2.1 q.2.2, w ∈ lw_tbl ∧ goodWord w = true := by decide +kernel
theorem sm_in {ci : Nat} {C : String} {T : u_T} {N : Nat} (hc : sm_cl[ci]? = some (C, T, N)) : ∀ w ∈ u_ws C T N, w ∈ sm_TB := fun w hw =>
  let h := sm_in0 _ (List.mem_of_getElem? hc) w hw
  sm_w h.1 h.2
theorem sm_ty_ok {ci : Nat} {C : String} {T : u_T} {N : Nat} (hc : sm_cl[ci]? = some (C, T, N)) : ∀ k, k < N → parseFieldDescriptor (T k).2.2.1 = some (sm_tyf ci k) := by
  match ci, hc with
  | 0, hc => cases hc; exact tyX0_ok
  | 1, hc => cases hc; exact tyX1_ok
  | 2, hc => cases hc; exact tyX2_ok
  | 3, hc => cases hc; exact tyX3_ok
  | 4, hc => cases hc; exact tyX4_ok
  | 5, hc => cases hc; exact tyX5_ok
  | 6, hc => cases hc; exact tyX6_ok
  | 7, hc => cases hc; exact tyX7_ok
  | 8, hc => cases hc; exact tyX8_ok
  | 9, hc => cases hc; exact tyX9_ok
  | 10, hc => cases hc; exact tyX10_ok
  | 11, hc => cases hc; exact tyX11_ok
  | 12, hc => cases hc; exact tyX12_ok
  | n + 13, hc => simp at hc
theorem sm_nm_ok {ci : Nat} {C : String} {T : u_T} {N : Nat} (hc : sm_cl[ci]? = some (C, T, N)) : ∀ a, a < N → ∀ b, b < N → a ≠ b → (T a).2.1 ≠ (T b).2.1 := by
  match ci, hc with
  | 0, hc => cases hc; exact nmX0
  | 1, hc => cases hc; exact nmX1
  | 2, hc => cases hc; exact nmX2
  | 3, hc => cases hc; exact nmX3
  | 4, hc => cases hc; exact nmX4
  | 5, hc => cases hc; exact nmX5
  | 6, hc => cases hc; exact nmX6
  | 7, hc => cases hc; exact nmX7
  | 8, hc => cases hc; exact nmX8
  | 9, hc => cases hc; exact nmX9
  | 10, hc => cases hc; exact nmX10
  | 11, hc => cases hc; exact nmX11
  | 12, hc => cases hc; exact nmX12
  | n + 13, hc => simp at hc
/-- a field's link out of a class's pool: read, and written -/
def sm_FL (own : String) (i ci j : Nat) : Prop := ∃ q : vw_C, sm_cl[ci]? = some q ∧ j < q.2.2 ∧ Cond.fieldLink own i (q.2.1 j).1 (q.2.1 j).2.1 (q.2.1 j).2.2.1 ∈ sm_TB
def sm_FW (own : String) (i ci j : Nat) : Prop := ∃ q : vw_C, sm_cl[ci]? = some q ∧ j < q.2.2 ∧ Cond.fieldLink own i (q.2.1 j).1 (q.2.1 j).2.1 (q.2.1 j).2.2.1 ∈ sm_TB ∧ (q.2.1 j).2.2.2 = false
/-! values and locals, addresses taken to the machine's -/
def sm_cv (ad : Nat → Nat) : Value → Value
  | .ref a => .ref (ad a)
  | v => v
theorem sm_cat (ad : Nat → Nat) (v : Value) : (sm_cv ad v).category = v.category := by cases v <;> rfl
def sm_lv (ad : Nat → Nat) (ls : List (Option Value)) : List (Nat × Value) := ls.zipIdx.filterMap (fun q => q.1.map (fun v => (q.2, sm_cv ad v)))
theorem sm_lvm {ad : Nat → Nat} {ls : List (Option Value)} {q : Nat × Value} : q ∈ sm_lv ad ls ↔ ∃ v, ls[q.1]? = some (some v) ∧ q.2 = sm_cv ad v := by
  unfold sm_lv
  rw [List.mem_filterMap]
  constructor
  · rintro ⟨⟨o, i⟩, h1, h2⟩
    rw [List.mem_zipIdx_iff_getElem?] at h1
    cases o with
    | none => cases h2
    | some v =>
      cases h2
      exact ⟨v, h1, rfl⟩
  · rintro ⟨v, h1, h2⟩
    refine ⟨(some v, q.1), ?_, ?_⟩
    · rw [List.mem_zipIdx_iff_getElem?]
      exact h1
    · show some (q.1, sm_cv ad v) = some q
      rw [← h2]
theorem sm_lvat {ad : Nat → Nat} {la : Array Slot} {n i : Nat} {ls : List (Option Value)} {v : Value} (h : lv_has la n (sm_lv ad ls)) (hv : ls[i]? = some (some v)) : la[i]? = some (.val (sm_cv ad v)) :=
  h.2.2 (i, sm_cv ad v) (sm_lvm.mpr ⟨v, hv, rfl⟩)
theorem sm_lvk {ad : Nat → Nat} {ls : List (Option Value)} {i : Nat} {x : Int32} (h : ls[i]? = some (some (.int x))) : ∃ k : Nat, (sm_lv ad ls)[k]? = some (i, .int x) :=
  List.getElem?_of_mem (sm_lvm.mpr ⟨.int x, h, rfl⟩)
/-- no long stands just below the place -/
def sm_ok1 (ls : List (Option Value)) (i : Nat) : Bool := match i with
  | 0 => true
  | j + 1 => match ls[j]? with
    | some (some v) => v.category == 1
    | _ => true
theorem sm_ok1_no {ls : List (Option Value)} {i j : Nat} {v : Value} (h : sm_ok1 ls i = true) (hj : j + 1 = i) (hv : ls[j]? = some (some v)) : ¬ v.category = 2 := by
  subst hj
  simp only [sm_ok1, hv, beq_iff_eq] at h
  omega
theorem sm_lvst1 {ad : Nat → Nat} {la : Array Slot} {n i : Nat} {ls : List (Option Value)} {v w : Value} (ho : sm_ok1 ls i = true) (hw : sm_cv ad v = w) (h : lv_has la n ((i, w) :: (sm_lv ad ls).filter (fun q => !(q.1 == i) && !(q.1 + 1 == i && q.2.category == 2)))) : lv_has la n (sm_lv ad (ls.set i (some v))) := by
  refine ⟨h.1, h.2.1, fun q hq => ?_⟩
  apply h.2.2 q
  obtain ⟨u, h1, h2⟩ := sm_lvm.mp hq
  by_cases hi : q.1 = i
  · rw [hi] at h1
    have hl : i < ls.length := by
      have := (List.getElem?_eq_some_iff.mp h1).1
      rwa [List.length_set] at this
    rw [List.getElem?_set_self hl] at h1
    cases h1
    apply List.mem_cons.mpr
    left
    rw [← hw, ← h2, ← hi]
  · rw [List.getElem?_set_ne (Ne.symm hi)] at h1
    apply List.mem_cons.mpr
    right
    apply List.mem_filter.mpr
    refine ⟨sm_lvm.mpr ⟨u, h1, h2⟩, ?_⟩
    have h3 : (q.1 == i) = false := by simpa using hi
    by_cases h4 : q.1 + 1 = i
    · have h5 := sm_ok1_no ho h4 h1
      rw [h2, sm_cat]
      simp [h3, h5]
    · simp [h3, h4]
theorem sm_lvst2 {ad : Nat → Nat} {la : Array Slot} {n i : Nat} {ls : List (Option Value)} {v : Value} (ho : sm_ok1 ls i = true) (h : lv_has la n ((i, sm_cv ad v) :: (sm_lv ad ls).filter (fun q => !(q.1 == i) && (!(q.1 == i + 1) && !(q.1 + 1 == i && q.2.category == 2))))) : lv_has la n (sm_lv ad ((ls.set i (some v)).set (i + 1) none)) := by
  refine ⟨h.1, h.2.1, fun q hq => ?_⟩
  apply h.2.2 q
  obtain ⟨u, h1, h2⟩ := sm_lvm.mp hq
  by_cases hj : q.1 = i + 1
  · rw [hj] at h1
    have hl : i + 1 < (ls.set i (some v)).length := by
      have := (List.getElem?_eq_some_iff.mp h1).1
      rwa [List.length_set] at this
    rw [List.getElem?_set_self hl] at h1
    cases h1
  · rw [List.getElem?_set_ne (Ne.symm hj)] at h1
    by_cases hi : q.1 = i
    · rw [hi] at h1
      have hl : i < ls.length := by
        have := (List.getElem?_eq_some_iff.mp h1).1
        rwa [List.length_set] at this
      rw [List.getElem?_set_self hl] at h1
      cases h1
      apply List.mem_cons.mpr
      left
      rw [← h2, ← hi]
    · rw [List.getElem?_set_ne (Ne.symm hi)] at h1
      apply List.mem_cons.mpr
      right
      apply List.mem_filter.mpr
      refine ⟨sm_lvm.mpr ⟨u, h1, h2⟩, ?_⟩
      have h3 : (q.1 == i) = false := by simpa using hi
      have h6 : (q.1 == i + 1) = false := by simpa using hj
      by_cases h4 : q.1 + 1 = i
      · have h5 := sm_ok1_no ho h4 h1
        rw [h2, sm_cat]
        simp [h3, h6, h5]
      · simp [h3, h6, h4]
/-! a method's own facts: its class, code, locals, return type; then depth, skeleton, outcome, the memory at its end -/
abbrev sm_Md : Type := String × ByteArray × Nat × Option FieldType
abbrev sm_O : Type := Option Value ⊕ String
def sm_k : sm_O → Nat
  | .inl _ => 0
  | .inr _ => 1
def sm_rm (d k : Nat) : Room := { frames := d, cells := k, slots := 6 * k, locals := 64 * d }
abbrev sm_G : Type := sm_Md × Nat × List sm_Sh × sm_O × sm_M
abbrev sm_own (g : sm_G) : String := g.1.1
abbrev sm_cc (g : sm_G) : ByteArray := g.1.2.1
abbrev sm_nL (g : sm_G) : Nat := g.1.2.2.1
abbrev sm_rt (g : sm_G) : Option FieldType := g.1.2.2.2
abbrev sm_d (g : sm_G) : Nat := g.2.1
abbrev sm_sk (g : sm_G) : List sm_Sh := g.2.2.1
abbrev sm_o (g : sm_G) : sm_O := g.2.2.2.1
abbrev sm_mf (g : sm_G) : sm_M := g.2.2.2.2
def sm_strs : List (String × Nat × String) := [("UniversalCycles", 92, "no such family"), ("UniversalCycles", 344, "no such element"), ("UniversalCycles", 116, "no such place"), ("UniversalCycles", 350, "no such symbol"), ("UniversalCycles", 133, "the sequence is full"), ("UniversalCycles", 346, "no such position"), ("UniversalCycles", 152, "the history is empty"), ("UniversalCycles", 162, "the input buffer is full"), ("UniversalCycles", 182, "no window shows the element"), ("UniversalCycles", 197, "no such part"), ("UniversalCycles", 352, "the sequence is empty"), ("UniversalCycles", 235, "the limit is out of range"), ("UniversalCycles", 241, "the limit is reached"), ("UniversalCycles", 243, "there is no universal sequence"), ("UniversalCycles", 354, "subsets have no graph"), ("UniversalCycles", 348, "no such vertex"), ("UniversalCycles", 279, "there is no walk"), ("UniversalCycles", 286, "the graph has too many vertices"), ("UniversalCycles", 359, "there is no Euler circuit"), ("UniversalCycles", 300, "the number is greater than a long"), ("UniversalCycles", 313, "the symbols do not suffice for the circuit"), ("UniversalCycles", 332, "nothing was saved")]
def sm_casts : List String := ["java/lang/IllegalArgumentException", "java/lang/IllegalStateException", "java/lang/IndexOutOfBoundsException", "java/util/NoSuchElementException", "java/lang/UnsupportedOperationException", "java/lang/ArithmeticException"]
def sm_decls : List MethodName := [⟨"java/lang/RuntimeException", "<init>", "(Ljava/lang/String;)V"⟩, ⟨"java/lang/Exception", "<init>", "(Ljava/lang/String;)V"⟩, ⟨"java/lang/Throwable", "<init>", "(Ljava/lang/String;)V"⟩]
def sm_ncs : List (String × String) := [("java/lang/ArithmeticException", "java/lang/UnsupportedOperationException"), ("java/lang/ArithmeticException", "java/util/NoSuchElementException"), ("java/lang/IllegalArgumentException", "java/lang/IndexOutOfBoundsException"), ("java/lang/IllegalStateException", "java/lang/IllegalArgumentException"), ("java/lang/IndexOutOfBoundsException", "java/lang/UnsupportedOperationException"), ("java/lang/IndexOutOfBoundsException", "java/util/NoSuchElementException"), ("java/util/NoSuchElementException", "java/lang/IllegalArgumentException"), ("java/util/NoSuchElementException", "java/lang/IllegalStateException"), ("java/util/NoSuchElementException", "java/lang/IndexOutOfBoundsException"), ("java/util/NoSuchElementException", "java/lang/UnsupportedOperationException")]
/-- what stands of a state besides the cells: classes, addresses apart, what throws need -/
def sm_K (D : va_G) (ad : Nat → Nat) (cA : Nat → ClassId) (n : Nat) (U : State) : Prop :=
  va_K D sm_cl (sm_tys cA) U ∧ (∀ i j, i < n → j < n → ad i = ad j → i = j) ∧ vx_Zq Bundle.tN "UNASSIGNED_STACK" Bundle.steD (sm_ad ad n) U U.heap ∧ vx_Zq Bundle.tN "SUPPRESSED_SENTINEL" Bundle.listD (sm_ad ad n) U U.heap ∧
  (∀ q ∈ sm_strs, ∃ a, vk_R q.1 q.2.1 q.2.2 a U) ∧ (∀ q ∈ sm_casts, va_Nw (.castable q q) U) ∧ (∀ q ∈ sm_decls, va_Nw (.declares q) U) ∧ (∀ q ∈ sm_ncs, va_Nc q.1 q.2 U)
def sm_Qc (D : va_G) (ad : Nat → Nat) (cA : Nat → ClassId) (sk : List sm_Sh) (sz : Nat) (o : sm_O) (M' : sm_M) : Array Value → State → Outcome → State → Prop := fun _ st oc t =>
  (∃ v, o = .inl v ∧ oc = .returned (v.map (sm_cv ad)) ∧ va_P D sm_cl (sm_ws ad cA sk M') t.heap) ∧ va_F (sm_A ad sk.length sz) st t
def sm_XC (D : va_G) (ad : Nat → Nat) (cA : Nat → ClassId) (sk : List sm_Sh) (sz : Nat) (o : sm_O) (M' : sm_M) : String → State → State → Prop := fun E st t =>
  o = .inr E ∧ va_P D sm_cl (sm_ws ad cA sk M') t.heap ∧ va_F (sm_A ad sk.length sz) st t
def sm_Pc (D : va_G) (ad : Nat → Nat) (cA : Nat → ClassId) (sk : List sm_Sh) (sz : Nat) (av : List Value) (M : sm_M) : Array Value → State → Prop := fun v U =>
  v = (av.map (sm_cv ad)).toArray ∧ U.heap.size = sz ∧ va_P D sm_cl (sm_ws ad cA sk M) U.heap ∧ sm_K D ad cA sk.length U
/-- A METHOD'S CONTRACT: with the arguments av and the memory M it comes to the outcome o and the memory M' -/
def sm_Ct (y : MethodName) (md : sm_Md) (d : Nat) (sk : List sm_Sh) (av : List Value) (M : sm_M) (o : sm_O) (M' : sm_M) : Prop :=
  ∀ (l : Launch) (D : va_G) (ad : Nat → Nat) (cA : Nat → ClassId) (sz : Nat), l.stackTraces = false →
    vx_Met l y (Cond.code y md.2.1 md.2.2.1 md.2.2.2 :: sm_TB) (sm_rm d (sm_k o)) (sm_Pc D ad cA sk sz av M) (sm_Qc D ad cA sk sz o M') (sm_XC D ad cA sk sz o M') (sm_k o) (6 * sm_k o) (sm_A ad sk.length sz)
def sm_Cx (g : sm_G) (p : Program) (l : Launch) (s : State) (m : MethodId) (args : Array Value) (meth : Method) (c : Code) (D : va_G) (ad : Nat → Nat) (cA : Nat → ClassId) : Prop :=
  l.stackTraces = false ∧ p.tables.exec = Jvm.exec ∧ c.code = sm_cc g ∧ meth.sig.returnType = sm_rt g ∧ c.maxLocals = sm_nL g ∧ s.vm.findClass (sm_own g) = some m.cls ∧ (∀ w ∈ sm_TB, w.before args s = true) ∧ meth.locks = false ∧ (∀ x ∈ c.exceptionTable.toList, False) ∧ sm_K D ad cA (sm_sk g).length s
/-- THE MACHINE in method g, at pc with locals ls, operands st and memory M, comes to g's outcome and g's last memory -/
def sm_J (g : sm_G) (pc : Nat) (ls : List (Option Value)) (st : List Value) (M : sm_M) : Prop :=
  ∀ (p : Program) (l : Launch) (e : Env) (s : State) (m : MethodId) (args : Array Value) (below : List Frame) (meth : Method) (c : Code) (D : va_G) (ad : Nat → Nat) (cA : Nat → ClassId),
    sm_Cx g p l s m args meth c D ad cA → ∀ (H : Heap) (locs : List Loc) (la : Array Slot), va_P D sm_cl (sm_ws ad cA (sm_sk g) M) H → va_S (sm_A ad (sm_sk g).length s.heap.size) s.heap H locs → lv_has la (sm_nL g) (sm_lv ad ls) →
    W p l e (sm_rm (sm_d g) (sm_k (sm_o g))) s m args below meth c H locs 0 0 (vx_MQ below (sm_Qc D ad cA (sm_sk g) s.heap.size (sm_o g) (sm_mf g)) (sm_XC D ad cA (sm_sk g) s.heap.size (sm_o g) (sm_mf g)) args s (sm_k (sm_o g)) (6 * sm_k (sm_o g)) (sm_A ad (sm_sk g).length s.heap.size)) (F0 m pc la (st.map (sm_cv ad)))
theorem sm_aald {p : Program} {l : Launch} {e : Env} {R : Room} {s : State} {m : MethodId} {args : Array Value} {below : List Frame} {meth : Method} {c : Code} {H : Heap} {locs : List Loc} {cells slots : Nat} {Q : State → Prop} {cc : ByteArray} {pc : Nat} {ls : Array Slot} {rest : List Value} {D : va_G} {ws : va_W} {ad : Nat → Nat} {cA : Nat → ClassId} {M : sm_M}
    (hexec : p.tables.exec = Jvm.exec) (hb : c.code = cc) (hK : va_K D sm_cl (sm_tys cA) s) (hP : va_P D sm_cl ws H) (a : Nat) {kd n r : Nat} {rs : List Nat} (ha : ws[a]? = some (ad a, sm_cell ad cA M a (.inl (kd, n, rs)))) (hk : kd = 4 ∨ kd = 5) {i : Int32} (hin : vp_in i n) (hr : rs[i.toNatClampNeg]? = some r) (hdg : decode cc pc = .ok (.aaload, 1))
    (kk : W p l e R s m args below meth c H locs cells slots Q (F0 m (pc + 1) ls (.ref (ad r) :: rest))) : W p l e R s m args below meth c H locs cells slots Q (F0 m pc ls (.int i :: .ref (ad a) :: rest)) := by
  have hlt : i.toNatClampNeg < n := Nat.not_le.mp fun q => hin (Or.inr q)
  have ha' : ws[a]? = some (ad a, .inl (cA kd, n, .inr (.inr (.inr (.inr (fun i => (rs[i]?).map ad)))))) := by
    rw [ha]
    rcases hk with rfl | rfl <;> rfl
  have hv : va_rf ((rs[i.toNatClampNeg]?).map ad) = .ref (ad r) := by rw [hr]; rfl
  rcases hk with rfl | rfl
  · exact W.aald (v := .ref (ad r)) (ty := .object "UniversalCycles$Row") hexec hb (hP a _ ha') ((hK.2 4 _ rfl).1 n (fun j => va_rf ((rs[j]?).map ad))) rfl (fun q => by cases q) (by show ¬ (i < 0 ∨ (arrV _ _ _).slots.size ≤ _); rw [arrV_size]; exact hin) (by show (arrV _ _ _).slots[_]? = _; rw [arrV_read _ _ hlt, hv]) rfl rfl hdg kk
  · exact W.aald (v := .ref (ad r)) (ty := .array .long) hexec hb (hP a _ ha') ((hK.2 5 _ rfl).1 n (fun j => va_rf ((rs[j]?).map ad))) rfl (fun q => by cases q) (by show ¬ (i < 0 ∨ (arrV _ _ _).slots.size ≤ _); rw [arrV_size]; exact hin) (by show (arrV _ _ _).slots[_]? = _; rw [arrV_read _ _ hlt, hv]) rfl rfl hdg kk
/-! ===== the rules ===== -/

theorem sm_iconst {g : sm_G} {pc q : Nat} {ls : List (Option Value)} {st : List Value} {M : sm_M} {n : Int} {v : Int32} (hd : decode (sm_cc g) pc = .ok (.iconst n, 1)) (hq : pc + 1 = q) (hv : Int32.ofInt n = v)
    (k : sm_J g q ls (.int v :: st) M) : sm_J g pc ls st M := by
  subst hq
  intro p l e s m args below meth c D ad cA C H locs la hP hS hL
  obtain ⟨hst, hx, hb, hr, hml, hown, hts, hlk, hex, hK⟩ := id C
  exact lv_iconst hx hb hd hv (k p l e s m args below meth c D ad cA C H locs la hP hS hL)

theorem sm_bipush {g : sm_G} {pc q : Nat} {ls : List (Option Value)} {st : List Value} {M : sm_M} {n : Int} {v : Int32} (hd : decode (sm_cc g) pc = .ok (.bipush n, 2)) (hq : pc + 2 = q) (hv : (Int8.ofInt n).toInt32 = v)
    (k : sm_J g q ls (.int v :: st) M) : sm_J g pc ls st M := by
  subst hq
  intro p l e s m args below meth c D ad cA C H locs la hP hS hL
  obtain ⟨hst, hx, hb, hr, hml, hown, hts, hlk, hex, hK⟩ := id C
  exact lv_bipush hx hb hd hv (k p l e s m args below meth c D ad cA C H locs la hP hS hL)

theorem sm_sipush {g : sm_G} {pc q : Nat} {ls : List (Option Value)} {st : List Value} {M : sm_M} {n : Int} {v : Int32} (hd : decode (sm_cc g) pc = .ok (.sipush n, 3)) (hq : pc + 3 = q) (hv : (Int16.ofInt n).toInt32 = v)
    (k : sm_J g q ls (.int v :: st) M) : sm_J g pc ls st M := by
  subst hq
  intro p l e s m args below meth c D ad cA C H locs la hP hS hL
  obtain ⟨hst, hx, hb, hr, hml, hown, hts, hlk, hex, hK⟩ := id C
  exact lv_sipush hx hb hd hv (k p l e s m args below meth c D ad cA C H locs la hP hS hL)

theorem sm_lconst {g : sm_G} {pc q : Nat} {ls : List (Option Value)} {st : List Value} {M : sm_M} {n : Fin 2} {v : Int64} (hd : decode (sm_cc g) pc = .ok (.lconst n, 1)) (hq : pc + 1 = q) (hv : Int64.ofNat (n : Nat) = v)
    (k : sm_J g q ls (.long v :: st) M) : sm_J g pc ls st M := by
  subst hq
  intro p l e s m args below meth c D ad cA C H locs la hP hS hL
  obtain ⟨hst, hx, hb, hr, hml, hown, hts, hlk, hex, hK⟩ := id C
  exact lv_lconst hx hb hd hv (k p l e s m args below meth c D ad cA C H locs la hP hS hL)

theorem sm_ldc {g : sm_G} {pc q : Nat} {ls : List (Option Value)} {st : List Value} {M : sm_M} {i : Nat} {v : Int32} (hd : decode (sm_cc g) pc = .ok (.ldc i, 2)) (hq : pc + 2 = q) (hw : Cond.constant (sm_own g) i v ∈ sm_TB)
    (k : sm_J g q ls (.int v :: st) M) : sm_J g pc ls st M := by
  subst hq
  intro p l e s m args below meth c D ad cA C H locs la hP hS hL
  obtain ⟨hst, hx, hb, hr, hml, hown, hts, hlk, hex, hK⟩ := id C
  exact lv_ldc hx hb hown (hts _ hw) hd (k p l e s m args below meth c D ad cA C H locs la hP hS hL)

theorem sm_ldc2 {g : sm_G} {pc q : Nat} {ls : List (Option Value)} {st : List Value} {M : sm_M} {i : Nat} {v : Int64} (hd : decode (sm_cc g) pc = .ok (.ldc2_w i, 3)) (hq : pc + 3 = q) (hw : Cond.constantLong (sm_own g) i v ∈ sm_TB)
    (k : sm_J g q ls (.long v :: st) M) : sm_J g pc ls st M := by
  subst hq
  intro p l e s m args below meth c D ad cA C H locs la hP hS hL
  obtain ⟨hst, hx, hb, hr, hml, hown, hts, hlk, hex, hK⟩ := id C
  exact lv_ldc2 hx hb hown (hts _ hw) hd (k p l e s m args below meth c D ad cA C H locs la hP hS hL)

theorem sm_ldcw {g : sm_G} {pc q : Nat} {ls : List (Option Value)} {st : List Value} {M : sm_M} {i : Nat} {v : Int32} (hd : decode (sm_cc g) pc = .ok (.ldc_w i, 3)) (hq : pc + 3 = q) (hw : Cond.constant (sm_own g) i v ∈ sm_TB)
    (k : sm_J g q ls (.int v :: st) M) : sm_J g pc ls st M := by
  subst hq
  intro p l e s m args below meth c D ad cA C H locs la hP hS hL
  obtain ⟨hst, hx, hb, hr, hml, hown, hts, hlk, hex, hK⟩ := id C
  exact lv_ldcw hx hb hown (hts _ hw) hd (k p l e s m args below meth c D ad cA C H locs la hP hS hL)

theorem sm_iload_n {g : sm_G} {pc q : Nat} {ls : List (Option Value)} {st : List Value} {M : sm_M} {n : Fin 4} {x : Int32} (hd : decode (sm_cc g) pc = .ok (.iload_n n, 1)) (hq : pc + 1 = q) (hv : ls[(n : Nat)]? = some (some (.int x)))
    (k : sm_J g q ls (.int x :: st) M) : sm_J g pc ls st M := by
  subst hq
  intro p l e s m args below meth c D ad cA C H locs la hP hS hL
  obtain ⟨hst, hx, hb, hr, hml, hown, hts, hlk, hex, hK⟩ := id C
  exact lv_iload_n hx hb hd rfl (sm_lvat hL hv) (k p l e s m args below meth c D ad cA C H locs la hP hS hL)

theorem sm_iload {g : sm_G} {pc q : Nat} {ls : List (Option Value)} {st : List Value} {M : sm_M} {i : Nat} {x : Int32} (hd : decode (sm_cc g) pc = .ok (.iload i, 2)) (hq : pc + 2 = q) (hv : ls[i]? = some (some (.int x)))
    (k : sm_J g q ls (.int x :: st) M) : sm_J g pc ls st M := by
  subst hq
  intro p l e s m args below meth c D ad cA C H locs la hP hS hL
  obtain ⟨hst, hx, hb, hr, hml, hown, hts, hlk, hex, hK⟩ := id C
  exact lv_iload hx hb hd (sm_lvat hL hv) (k p l e s m args below meth c D ad cA C H locs la hP hS hL)

theorem sm_lload_n {g : sm_G} {pc q : Nat} {ls : List (Option Value)} {st : List Value} {M : sm_M} {n : Fin 4} {x : Int64} (hd : decode (sm_cc g) pc = .ok (.lload_n n, 1)) (hq : pc + 1 = q) (hv : ls[(n : Nat)]? = some (some (.long x)))
    (k : sm_J g q ls (.long x :: st) M) : sm_J g pc ls st M := by
  subst hq
  intro p l e s m args below meth c D ad cA C H locs la hP hS hL
  obtain ⟨hst, hx, hb, hr, hml, hown, hts, hlk, hex, hK⟩ := id C
  exact lv_lload_n hx hb hd rfl (sm_lvat hL hv) (k p l e s m args below meth c D ad cA C H locs la hP hS hL)

theorem sm_lload {g : sm_G} {pc q : Nat} {ls : List (Option Value)} {st : List Value} {M : sm_M} {i : Nat} {x : Int64} (hd : decode (sm_cc g) pc = .ok (.lload i, 2)) (hq : pc + 2 = q) (hv : ls[i]? = some (some (.long x)))
    (k : sm_J g q ls (.long x :: st) M) : sm_J g pc ls st M := by
  subst hq
  intro p l e s m args below meth c D ad cA C H locs la hP hS hL
  obtain ⟨hst, hx, hb, hr, hml, hown, hts, hlk, hex, hK⟩ := id C
  exact lv_lload hx hb hd (sm_lvat hL hv) (k p l e s m args below meth c D ad cA C H locs la hP hS hL)

theorem sm_aload_n {g : sm_G} {pc q : Nat} {ls : List (Option Value)} {st : List Value} {M : sm_M} {n : Fin 4} {x : Nat} (hd : decode (sm_cc g) pc = .ok (.aload_n n, 1)) (hq : pc + 1 = q) (hv : ls[(n : Nat)]? = some (some (.ref x)))
    (k : sm_J g q ls (.ref x :: st) M) : sm_J g pc ls st M := by
  subst hq
  intro p l e s m args below meth c D ad cA C H locs la hP hS hL
  obtain ⟨hst, hx, hb, hr, hml, hown, hts, hlk, hex, hK⟩ := id C
  exact lv_aload_n hx hb hd rfl (sm_lvat hL hv) (k p l e s m args below meth c D ad cA C H locs la hP hS hL)

theorem sm_aload {g : sm_G} {pc q : Nat} {ls : List (Option Value)} {st : List Value} {M : sm_M} {i : Nat} {x : Nat} (hd : decode (sm_cc g) pc = .ok (.aload i, 2)) (hq : pc + 2 = q) (hv : ls[i]? = some (some (.ref x)))
    (k : sm_J g q ls (.ref x :: st) M) : sm_J g pc ls st M := by
  subst hq
  intro p l e s m args below meth c D ad cA C H locs la hP hS hL
  obtain ⟨hst, hx, hb, hr, hml, hown, hts, hlk, hex, hK⟩ := id C
  exact lv_aload hx hb hd (sm_lvat hL hv) (k p l e s m args below meth c D ad cA C H locs la hP hS hL)

theorem sm_istore_n {g : sm_G} {pc q : Nat} {ls : List (Option Value)} {st : List Value} {M : sm_M} {n : Fin 4} {x : Int32} (hd : decode (sm_cc g) pc = .ok (.istore_n n, 1)) (hq : pc + 1 = q) (hn : (n : Nat) < sm_nL g) (ho : sm_ok1 ls (n : Nat) = true) {lt : List (Option Value)} (hl9 : ls.set (n : Nat) (some (.int x)) = lt)
    (k : sm_J g q lt st M) : sm_J g pc ls (.int x :: st) M := by
  subst hq
  intro p l e s m args below meth c D ad cA C H locs la hP hS hL
  obtain ⟨hst, hx, hb, hr, hml, hown, hts, hlk, hex, hK⟩ := id C
  subst hl9
  exact lv_istore_n hx hb hd rfl hL hn rfl (fun la' hL' => k p l e s m args below meth c D ad cA C H locs la' hP hS (sm_lvst1 (v := .int x) ho rfl hL'))

theorem sm_istore {g : sm_G} {pc q : Nat} {ls : List (Option Value)} {st : List Value} {M : sm_M} {n : Nat} {x : Int32} (hd : decode (sm_cc g) pc = .ok (.istore n, 2)) (hq : pc + 2 = q) (hn : n < sm_nL g) (ho : sm_ok1 ls n = true) {lt : List (Option Value)} (hl9 : ls.set n (some (.int x)) = lt)
    (k : sm_J g q lt st M) : sm_J g pc ls (.int x :: st) M := by
  subst hq
  intro p l e s m args below meth c D ad cA C H locs la hP hS hL
  obtain ⟨hst, hx, hb, hr, hml, hown, hts, hlk, hex, hK⟩ := id C
  subst hl9
  exact lv_istore hx hb hd hL hn rfl (fun la' hL' => k p l e s m args below meth c D ad cA C H locs la' hP hS (sm_lvst1 (v := .int x) ho rfl hL'))

theorem sm_astore_n {g : sm_G} {pc q : Nat} {ls : List (Option Value)} {st : List Value} {M : sm_M} {n : Fin 4} {x : Nat} (hd : decode (sm_cc g) pc = .ok (.astore_n n, 1)) (hq : pc + 1 = q) (hn : (n : Nat) < sm_nL g) (ho : sm_ok1 ls (n : Nat) = true) {lt : List (Option Value)} (hl9 : ls.set (n : Nat) (some (.ref x)) = lt)
    (k : sm_J g q lt st M) : sm_J g pc ls (.ref x :: st) M := by
  subst hq
  intro p l e s m args below meth c D ad cA C H locs la hP hS hL
  obtain ⟨hst, hx, hb, hr, hml, hown, hts, hlk, hex, hK⟩ := id C
  subst hl9
  exact lv_astore_n hx hb hd rfl hL hn rfl (fun la' hL' => k p l e s m args below meth c D ad cA C H locs la' hP hS (sm_lvst1 (v := .ref x) ho rfl hL'))

theorem sm_astore {g : sm_G} {pc q : Nat} {ls : List (Option Value)} {st : List Value} {M : sm_M} {n : Nat} {x : Nat} (hd : decode (sm_cc g) pc = .ok (.astore n, 2)) (hq : pc + 2 = q) (hn : n < sm_nL g) (ho : sm_ok1 ls n = true) {lt : List (Option Value)} (hl9 : ls.set n (some (.ref x)) = lt)
    (k : sm_J g q lt st M) : sm_J g pc ls (.ref x :: st) M := by
  subst hq
  intro p l e s m args below meth c D ad cA C H locs la hP hS hL
  obtain ⟨hst, hx, hb, hr, hml, hown, hts, hlk, hex, hK⟩ := id C
  subst hl9
  exact lv_astore hx hb hd hL hn rfl (fun la' hL' => k p l e s m args below meth c D ad cA C H locs la' hP hS (sm_lvst1 (v := .ref x) ho rfl hL'))

theorem sm_lstore_n {g : sm_G} {pc q : Nat} {ls : List (Option Value)} {st : List Value} {M : sm_M} {n : Fin 4} {x : Int64} (hd : decode (sm_cc g) pc = .ok (.lstore_n n, 1)) (hq : pc + 1 = q) (hn : (n : Nat) + 1 < sm_nL g) (ho : sm_ok1 ls (n : Nat) = true) {lt : List (Option Value)} (hl9 : (ls.set (n : Nat) (some (.long x))).set ((n : Nat) + 1) none = lt)
    (k : sm_J g q lt st M) : sm_J g pc ls (.long x :: st) M := by
  subst hq
  intro p l e s m args below meth c D ad cA C H locs la hP hS hL
  obtain ⟨hst, hx, hb, hr, hml, hown, hts, hlk, hex, hK⟩ := id C
  subst hl9
  exact lv_lstore_n hx hb hd rfl hL hn rfl (fun la' hL' => k p l e s m args below meth c D ad cA C H locs la' hP hS (sm_lvst2 (v := .long x) ho hL'))

theorem sm_lstore {g : sm_G} {pc q : Nat} {ls : List (Option Value)} {st : List Value} {M : sm_M} {n : Nat} {x : Int64} (hd : decode (sm_cc g) pc = .ok (.lstore n, 2)) (hq : pc + 2 = q) (hn : n + 1 < sm_nL g) (ho : sm_ok1 ls n = true) {lt : List (Option Value)} (hl9 : (ls.set n (some (.long x))).set (n + 1) none = lt)
    (k : sm_J g q lt st M) : sm_J g pc ls (.long x :: st) M := by
  subst hq
  intro p l e s m args below meth c D ad cA C H locs la hP hS hL
  obtain ⟨hst, hx, hb, hr, hml, hown, hts, hlk, hex, hK⟩ := id C
  subst hl9
  exact lv_lstore hx hb hd hL hn rfl (fun la' hL' => k p l e s m args below meth c D ad cA C H locs la' hP hS (sm_lvst2 (v := .long x) ho hL'))

theorem sm_iinc {g : sm_G} {pc q : Nat} {ls : List (Option Value)} {st : List Value} {M : sm_M} {i : Nat} {n : Int} {x v : Int32} (hd : decode (sm_cc g) pc = .ok (.iinc i n, 3)) (hq : pc + 3 = q) (hi : ls[i]? = some (some (.int x))) (hv : x + Int32.ofInt n = v) (hn : i < sm_nL g) (ho : sm_ok1 ls i = true) {lt : List (Option Value)} (hl9 : ls.set i (some (.int v)) = lt)
    (k : sm_J g q lt st M) : sm_J g pc ls st M := by
  subst hq
  intro p l e s m args below meth c D ad cA C H locs la hP hS hL
  obtain ⟨hst, hx, hb, hr, hml, hown, hts, hlk, hex, hK⟩ := id C
  subst hl9
  obtain ⟨kx, hkx⟩ := sm_lvk (ad := ad) hi
  exact lv_iinc hx hb hd hL hkx hv hn rfl (fun la' hL' => k p l e s m args below meth c D ad cA C H locs la' hP hS (sm_lvst1 (v := .int v) ho rfl hL'))

theorem sm_iadd {g : sm_G} {pc q : Nat} {ls : List (Option Value)} {st : List Value} {M : sm_M} {x y : Int32} (hd : decode (sm_cc g) pc = .ok (.iadd, 1)) (hq : pc + 1 = q)
    (k : sm_J g q ls (.int (x + y) :: st) M) : sm_J g pc ls (.int y :: .int x :: st) M := by
  subst hq
  intro p l e s m args below meth c D ad cA C H locs la hP hS hL
  obtain ⟨hst, hx, hb, hr, hml, hown, hts, hlk, hex, hK⟩ := id C
  exact lv_iadd hx hb hd (k p l e s m args below meth c D ad cA C H locs la hP hS hL)

theorem sm_isub {g : sm_G} {pc q : Nat} {ls : List (Option Value)} {st : List Value} {M : sm_M} {x y : Int32} (hd : decode (sm_cc g) pc = .ok (.isub, 1)) (hq : pc + 1 = q)
    (k : sm_J g q ls (.int (x - y) :: st) M) : sm_J g pc ls (.int y :: .int x :: st) M := by
  subst hq
  intro p l e s m args below meth c D ad cA C H locs la hP hS hL
  obtain ⟨hst, hx, hb, hr, hml, hown, hts, hlk, hex, hK⟩ := id C
  exact lv_isub hx hb hd (k p l e s m args below meth c D ad cA C H locs la hP hS hL)

theorem sm_imul {g : sm_G} {pc q : Nat} {ls : List (Option Value)} {st : List Value} {M : sm_M} {x y : Int32} (hd : decode (sm_cc g) pc = .ok (.imul, 1)) (hq : pc + 1 = q)
    (k : sm_J g q ls (.int (x * y) :: st) M) : sm_J g pc ls (.int y :: .int x :: st) M := by
  subst hq
  intro p l e s m args below meth c D ad cA C H locs la hP hS hL
  obtain ⟨hst, hx, hb, hr, hml, hown, hts, hlk, hex, hK⟩ := id C
  exact lv_imul hx hb hd (k p l e s m args below meth c D ad cA C H locs la hP hS hL)

theorem sm_iand {g : sm_G} {pc q : Nat} {ls : List (Option Value)} {st : List Value} {M : sm_M} {x y : Int32} (hd : decode (sm_cc g) pc = .ok (.iand, 1)) (hq : pc + 1 = q)
    (k : sm_J g q ls (.int (x &&& y) :: st) M) : sm_J g pc ls (.int y :: .int x :: st) M := by
  subst hq
  intro p l e s m args below meth c D ad cA C H locs la hP hS hL
  obtain ⟨hst, hx, hb, hr, hml, hown, hts, hlk, hex, hK⟩ := id C
  exact lv_iand hx hb hd (k p l e s m args below meth c D ad cA C H locs la hP hS hL)

theorem sm_ior {g : sm_G} {pc q : Nat} {ls : List (Option Value)} {st : List Value} {M : sm_M} {x y : Int32} (hd : decode (sm_cc g) pc = .ok (.ior, 1)) (hq : pc + 1 = q)
    (k : sm_J g q ls (.int (x ||| y) :: st) M) : sm_J g pc ls (.int y :: .int x :: st) M := by
  subst hq
  intro p l e s m args below meth c D ad cA C H locs la hP hS hL
  obtain ⟨hst, hx, hb, hr, hml, hown, hts, hlk, hex, hK⟩ := id C
  exact lv_ior hx hb hd (k p l e s m args below meth c D ad cA C H locs la hP hS hL)

theorem sm_ixor {g : sm_G} {pc q : Nat} {ls : List (Option Value)} {st : List Value} {M : sm_M} {x y : Int32} (hd : decode (sm_cc g) pc = .ok (.ixor, 1)) (hq : pc + 1 = q)
    (k : sm_J g q ls (.int (x ^^^ y) :: st) M) : sm_J g pc ls (.int y :: .int x :: st) M := by
  subst hq
  intro p l e s m args below meth c D ad cA C H locs la hP hS hL
  obtain ⟨hst, hx, hb, hr, hml, hown, hts, hlk, hex, hK⟩ := id C
  exact lv_ixor hx hb hd (k p l e s m args below meth c D ad cA C H locs la hP hS hL)

theorem sm_ishl {g : sm_G} {pc q : Nat} {ls : List (Option Value)} {st : List Value} {M : sm_M} {x y : Int32} (hd : decode (sm_cc g) pc = .ok (.ishl, 1)) (hq : pc + 1 = q)
    (k : sm_J g q ls (.int (x <<< (y &&& 31)) :: st) M) : sm_J g pc ls (.int y :: .int x :: st) M := by
  subst hq
  intro p l e s m args below meth c D ad cA C H locs la hP hS hL
  obtain ⟨hst, hx, hb, hr, hml, hown, hts, hlk, hex, hK⟩ := id C
  exact lv_ishl hx hb hd (k p l e s m args below meth c D ad cA C H locs la hP hS hL)

theorem sm_ishr {g : sm_G} {pc q : Nat} {ls : List (Option Value)} {st : List Value} {M : sm_M} {x y : Int32} (hd : decode (sm_cc g) pc = .ok (.ishr, 1)) (hq : pc + 1 = q)
    (k : sm_J g q ls (.int (x >>> (y &&& 31)) :: st) M) : sm_J g pc ls (.int y :: .int x :: st) M := by
  subst hq
  intro p l e s m args below meth c D ad cA C H locs la hP hS hL
  obtain ⟨hst, hx, hb, hr, hml, hown, hts, hlk, hex, hK⟩ := id C
  exact lv_ishr hx hb hd (k p l e s m args below meth c D ad cA C H locs la hP hS hL)

theorem sm_idiv {g : sm_G} {pc q : Nat} {ls : List (Option Value)} {st : List Value} {M : sm_M} {x y : Int32} (hd : decode (sm_cc g) pc = .ok (.idiv, 1)) (hq : pc + 1 = q) (hne : ¬ y = 0)
    (k : sm_J g q ls (.int (x / y) :: st) M) : sm_J g pc ls (.int y :: .int x :: st) M := by
  subst hq
  intro p l e s m args below meth c D ad cA C H locs la hP hS hL
  obtain ⟨hst, hx, hb, hr, hml, hown, hts, hlk, hex, hK⟩ := id C
  exact lv_idiv hx hb hd hne (k p l e s m args below meth c D ad cA C H locs la hP hS hL)

theorem sm_irem {g : sm_G} {pc q : Nat} {ls : List (Option Value)} {st : List Value} {M : sm_M} {x y : Int32} (hd : decode (sm_cc g) pc = .ok (.irem, 1)) (hq : pc + 1 = q) (hne : ¬ y = 0)
    (k : sm_J g q ls (.int (x - x / y * y) :: st) M) : sm_J g pc ls (.int y :: .int x :: st) M := by
  subst hq
  intro p l e s m args below meth c D ad cA C H locs la hP hS hL
  obtain ⟨hst, hx, hb, hr, hml, hown, hts, hlk, hex, hK⟩ := id C
  exact lv_irem hx hb hd hne (k p l e s m args below meth c D ad cA C H locs la hP hS hL)

theorem sm_iushr {g : sm_G} {pc q : Nat} {ls : List (Option Value)} {st : List Value} {M : sm_M} {x y : Int32} (hd : decode (sm_cc g) pc = .ok (.iushr, 1)) (hq : pc + 1 = q)
    (k : sm_J g q ls (.int ((x.toUInt32 >>> (y.toUInt32 &&& Int32.toUInt32 31)).toInt32) :: st) M) : sm_J g pc ls (.int y :: .int x :: st) M := by
  subst hq
  intro p l e s m args below meth c D ad cA C H locs la hP hS hL
  obtain ⟨hst, hx, hb, hr, hml, hown, hts, hlk, hex, hK⟩ := id C
  exact lv_iushr hx hb hd rfl (k p l e s m args below meth c D ad cA C H locs la hP hS hL)

theorem sm_ineg {g : sm_G} {pc q : Nat} {ls : List (Option Value)} {st : List Value} {M : sm_M} {x : Int32} (hd : decode (sm_cc g) pc = .ok (.ineg, 1)) (hq : pc + 1 = q)
    (k : sm_J g q ls (.int (-x) :: st) M) : sm_J g pc ls (.int x :: st) M := by
  subst hq
  intro p l e s m args below meth c D ad cA C H locs la hP hS hL
  obtain ⟨hst, hx, hb, hr, hml, hown, hts, hlk, hex, hK⟩ := id C
  exact lv_ineg hx hb hd (k p l e s m args below meth c D ad cA C H locs la hP hS hL)

theorem sm_ladd {g : sm_G} {pc q : Nat} {ls : List (Option Value)} {st : List Value} {M : sm_M} {x y : Int64} (hd : decode (sm_cc g) pc = .ok (.ladd, 1)) (hq : pc + 1 = q)
    (k : sm_J g q ls (.long (x + y) :: st) M) : sm_J g pc ls (.long y :: .long x :: st) M := by
  subst hq
  intro p l e s m args below meth c D ad cA C H locs la hP hS hL
  obtain ⟨hst, hx, hb, hr, hml, hown, hts, hlk, hex, hK⟩ := id C
  exact lv_ladd hx hb hd (k p l e s m args below meth c D ad cA C H locs la hP hS hL)

theorem sm_lsub {g : sm_G} {pc q : Nat} {ls : List (Option Value)} {st : List Value} {M : sm_M} {x y : Int64} (hd : decode (sm_cc g) pc = .ok (.lsub, 1)) (hq : pc + 1 = q)
    (k : sm_J g q ls (.long (x - y) :: st) M) : sm_J g pc ls (.long y :: .long x :: st) M := by
  subst hq
  intro p l e s m args below meth c D ad cA C H locs la hP hS hL
  obtain ⟨hst, hx, hb, hr, hml, hown, hts, hlk, hex, hK⟩ := id C
  exact lv_lsub hx hb hd (k p l e s m args below meth c D ad cA C H locs la hP hS hL)

theorem sm_lmul {g : sm_G} {pc q : Nat} {ls : List (Option Value)} {st : List Value} {M : sm_M} {x y : Int64} (hd : decode (sm_cc g) pc = .ok (.lmul, 1)) (hq : pc + 1 = q)
    (k : sm_J g q ls (.long (x * y) :: st) M) : sm_J g pc ls (.long y :: .long x :: st) M := by
  subst hq
  intro p l e s m args below meth c D ad cA C H locs la hP hS hL
  obtain ⟨hst, hx, hb, hr, hml, hown, hts, hlk, hex, hK⟩ := id C
  exact lv_lmul hx hb hd (k p l e s m args below meth c D ad cA C H locs la hP hS hL)

theorem sm_lor {g : sm_G} {pc q : Nat} {ls : List (Option Value)} {st : List Value} {M : sm_M} {x y : Int64} (hd : decode (sm_cc g) pc = .ok (.lor, 1)) (hq : pc + 1 = q)
    (k : sm_J g q ls (.long (x ||| y) :: st) M) : sm_J g pc ls (.long y :: .long x :: st) M := by
  subst hq
  intro p l e s m args below meth c D ad cA C H locs la hP hS hL
  obtain ⟨hst, hx, hb, hr, hml, hown, hts, hlk, hex, hK⟩ := id C
  exact lv_lor hx hb hd (k p l e s m args below meth c D ad cA C H locs la hP hS hL)

theorem sm_land {g : sm_G} {pc q : Nat} {ls : List (Option Value)} {st : List Value} {M : sm_M} {x y : Int64} (hd : decode (sm_cc g) pc = .ok (.land, 1)) (hq : pc + 1 = q)
    (k : sm_J g q ls (.long (x &&& y) :: st) M) : sm_J g pc ls (.long y :: .long x :: st) M := by
  subst hq
  intro p l e s m args below meth c D ad cA C H locs la hP hS hL
  obtain ⟨hst, hx, hb, hr, hml, hown, hts, hlk, hex, hK⟩ := id C
  exact lv_land hx hb hd (k p l e s m args below meth c D ad cA C H locs la hP hS hL)

theorem sm_ldiv {g : sm_G} {pc q : Nat} {ls : List (Option Value)} {st : List Value} {M : sm_M} {x y : Int64} (hd : decode (sm_cc g) pc = .ok (.ldiv, 1)) (hq : pc + 1 = q) (hne : ¬ y = 0)
    (k : sm_J g q ls (.long (x / y) :: st) M) : sm_J g pc ls (.long y :: .long x :: st) M := by
  subst hq
  intro p l e s m args below meth c D ad cA C H locs la hP hS hL
  obtain ⟨hst, hx, hb, hr, hml, hown, hts, hlk, hex, hK⟩ := id C
  exact lv_ldiv hx hb hd hne (k p l e s m args below meth c D ad cA C H locs la hP hS hL)

theorem sm_lshl {g : sm_G} {pc q : Nat} {ls : List (Option Value)} {st : List Value} {M : sm_M} {x : Int64} {y : Int32} (hd : decode (sm_cc g) pc = .ok (.lshl, 1)) (hq : pc + 1 = q)
    (k : sm_J g q ls (.long (x <<< (y.toInt64 &&& 63)) :: st) M) : sm_J g pc ls (.int y :: .long x :: st) M := by
  subst hq
  intro p l e s m args below meth c D ad cA C H locs la hP hS hL
  obtain ⟨hst, hx, hb, hr, hml, hown, hts, hlk, hex, hK⟩ := id C
  exact lv_lshl hx hb hd rfl (k p l e s m args below meth c D ad cA C H locs la hP hS hL)

theorem sm_lcmp {g : sm_G} {pc q : Nat} {ls : List (Option Value)} {st : List Value} {M : sm_M} {x y : Int64} (hd : decode (sm_cc g) pc = .ok (.lcmp, 1)) (hq : pc + 1 = q)
    (k : sm_J g q ls (.int (lg_cmp x y) :: st) M) : sm_J g pc ls (.long y :: .long x :: st) M := by
  subst hq
  intro p l e s m args below meth c D ad cA C H locs la hP hS hL
  obtain ⟨hst, hx, hb, hr, hml, hown, hts, hlk, hex, hK⟩ := id C
  exact W.lcmp hx hb hd (k p l e s m args below meth c D ad cA C H locs la hP hS hL)

theorem sm_i2l {g : sm_G} {pc q : Nat} {ls : List (Option Value)} {st : List Value} {M : sm_M} {x : Int32} (hd : decode (sm_cc g) pc = .ok (.i2l, 1)) (hq : pc + 1 = q)
    (k : sm_J g q ls (.long x.toInt64 :: st) M) : sm_J g pc ls (.int x :: st) M := by
  subst hq
  intro p l e s m args below meth c D ad cA C H locs la hP hS hL
  obtain ⟨hst, hx, hb, hr, hml, hown, hts, hlk, hex, hK⟩ := id C
  exact lv_i2l hx hb hd rfl (k p l e s m args below meth c D ad cA C H locs la hP hS hL)

theorem sm_l2i {g : sm_G} {pc q : Nat} {ls : List (Option Value)} {st : List Value} {M : sm_M} {x : Int64} (hd : decode (sm_cc g) pc = .ok (.l2i, 1)) (hq : pc + 1 = q)
    (k : sm_J g q ls (.int x.toInt32 :: st) M) : sm_J g pc ls (.long x :: st) M := by
  subst hq
  intro p l e s m args below meth c D ad cA C H locs la hP hS hL
  obtain ⟨hst, hx, hb, hr, hml, hown, hts, hlk, hex, hK⟩ := id C
  exact lv_l2i hx hb hd rfl (k p l e s m args below meth c D ad cA C H locs la hP hS hL)

theorem sm_i2c {g : sm_G} {pc q : Nat} {ls : List (Option Value)} {st : List Value} {M : sm_M} {x : Int32} (hd : decode (sm_cc g) pc = .ok (.i2c, 1)) (hq : pc + 1 = q)
    (k : sm_J g q ls (.int (x.toUInt32 % 65536).toInt32 :: st) M) : sm_J g pc ls (.int x :: st) M := by
  subst hq
  intro p l e s m args below meth c D ad cA C H locs la hP hS hL
  obtain ⟨hst, hx, hb, hr, hml, hown, hts, hlk, hex, hK⟩ := id C
  exact lv_i2c hx hb hd rfl (k p l e s m args below meth c D ad cA C H locs la hP hS hL)

theorem sm_dup {g : sm_G} {pc q : Nat} {ls : List (Option Value)} {st : List Value} {M : sm_M} {v : Value} (hd : decode (sm_cc g) pc = .ok (.dup, 1)) (hq : pc + 1 = q) (hv : v.category = 1)
    (k : sm_J g q ls (v :: v :: st) M) : sm_J g pc ls (v :: st) M := by
  subst hq
  intro p l e s m args below meth c D ad cA C H locs la hP hS hL
  obtain ⟨hst, hx, hb, hr, hml, hown, hts, hlk, hex, hK⟩ := id C
  exact lv_dup hx hb hd (by rw [sm_cat]; exact hv) (k p l e s m args below meth c D ad cA C H locs la hP hS hL)

theorem sm_dup2 {g : sm_G} {pc q : Nat} {ls : List (Option Value)} {st : List Value} {M : sm_M} {v u : Value} (hd : decode (sm_cc g) pc = .ok (.dup2, 1)) (hq : pc + 1 = q) (hv : v.category = 1) (hu : u.category = 1)
    (k : sm_J g q ls (v :: u :: v :: u :: st) M) : sm_J g pc ls (v :: u :: st) M := by
  subst hq
  intro p l e s m args below meth c D ad cA C H locs la hP hS hL
  obtain ⟨hst, hx, hb, hr, hml, hown, hts, hlk, hex, hK⟩ := id C
  exact lv_dup2_11 hx hb hd (by rw [sm_cat]; exact hv) (by rw [sm_cat]; exact hu) (k p l e s m args below meth c D ad cA C H locs la hP hS hL)

theorem sm_pop {g : sm_G} {pc q : Nat} {ls : List (Option Value)} {st : List Value} {M : sm_M} {v : Value} (hd : decode (sm_cc g) pc = .ok (.pop, 1)) (hq : pc + 1 = q) (hv : v.category = 1)
    (k : sm_J g q ls st M) : sm_J g pc ls (v :: st) M := by
  subst hq
  intro p l e s m args below meth c D ad cA C H locs la hP hS hL
  obtain ⟨hst, hx, hb, hr, hml, hown, hts, hlk, hex, hK⟩ := id C
  exact lv_pop hx hb hd (by rw [sm_cat]; exact hv) (k p l e s m args below meth c D ad cA C H locs la hP hS hL)

theorem sm_if_eq {g : sm_G} {pc q t : Nat} {ls : List (Option Value)} {st : List Value} {M : sm_M} {x : Int32} {off : Int} (hd : decode (sm_cc g) pc = .ok (.ifCond .eq off, 3)) (hq : pc + 3 = q) (ht : (pc : Int) + off = (t : Int))
    (kt : x = 0 → sm_J g t ls st M) (kf : ¬ x = 0 → sm_J g q ls st M) : sm_J g pc ls (.int x :: st) M := by
  subst hq
  intro p l e s m args below meth c D ad cA C H locs la hP hS hL
  obtain ⟨hst, hx, hb, hr, hml, hown, hts, hlk, hex, hK⟩ := id C
  exact lv_if_eq hx hb hd ht (fun h => kt h p l e s m args below meth c D ad cA C H locs la hP hS hL) (fun h => kf h p l e s m args below meth c D ad cA C H locs la hP hS hL)

theorem sm_icmp_eq {g : sm_G} {pc q t : Nat} {ls : List (Option Value)} {st : List Value} {M : sm_M} {x y : Int32} {off : Int} (hd : decode (sm_cc g) pc = .ok (.if_icmp .eq off, 3)) (hq : pc + 3 = q) (ht : (pc : Int) + off = (t : Int))
    (kt : x = y → sm_J g t ls st M) (kf : ¬ x = y → sm_J g q ls st M) : sm_J g pc ls (.int y :: .int x :: st) M := by
  subst hq
  intro p l e s m args below meth c D ad cA C H locs la hP hS hL
  obtain ⟨hst, hx, hb, hr, hml, hown, hts, hlk, hex, hK⟩ := id C
  exact lv_icmp_eq hx hb hd ht (fun h => kt h p l e s m args below meth c D ad cA C H locs la hP hS hL) (fun h => kf h p l e s m args below meth c D ad cA C H locs la hP hS hL)

theorem sm_if_ne {g : sm_G} {pc q t : Nat} {ls : List (Option Value)} {st : List Value} {M : sm_M} {x : Int32} {off : Int} (hd : decode (sm_cc g) pc = .ok (.ifCond .ne off, 3)) (hq : pc + 3 = q) (ht : (pc : Int) + off = (t : Int))
    (kt : ¬ x = 0 → sm_J g t ls st M) (kf : x = 0 → sm_J g q ls st M) : sm_J g pc ls (.int x :: st) M := by
  subst hq
  intro p l e s m args below meth c D ad cA C H locs la hP hS hL
  obtain ⟨hst, hx, hb, hr, hml, hown, hts, hlk, hex, hK⟩ := id C
  exact lv_if_ne hx hb hd ht (fun h => kt h p l e s m args below meth c D ad cA C H locs la hP hS hL) (fun h => kf h p l e s m args below meth c D ad cA C H locs la hP hS hL)

theorem sm_icmp_ne {g : sm_G} {pc q t : Nat} {ls : List (Option Value)} {st : List Value} {M : sm_M} {x y : Int32} {off : Int} (hd : decode (sm_cc g) pc = .ok (.if_icmp .ne off, 3)) (hq : pc + 3 = q) (ht : (pc : Int) + off = (t : Int))
    (kt : ¬ x = y → sm_J g t ls st M) (kf : x = y → sm_J g q ls st M) : sm_J g pc ls (.int y :: .int x :: st) M := by
  subst hq
  intro p l e s m args below meth c D ad cA C H locs la hP hS hL
  obtain ⟨hst, hx, hb, hr, hml, hown, hts, hlk, hex, hK⟩ := id C
  exact lv_icmp_ne hx hb hd ht (fun h => kt h p l e s m args below meth c D ad cA C H locs la hP hS hL) (fun h => kf h p l e s m args below meth c D ad cA C H locs la hP hS hL)

theorem sm_if_lt {g : sm_G} {pc q t : Nat} {ls : List (Option Value)} {st : List Value} {M : sm_M} {x : Int32} {off : Int} (hd : decode (sm_cc g) pc = .ok (.ifCond .lt off, 3)) (hq : pc + 3 = q) (ht : (pc : Int) + off = (t : Int))
    (kt : x < 0 → sm_J g t ls st M) (kf : ¬ x < 0 → sm_J g q ls st M) : sm_J g pc ls (.int x :: st) M := by
  subst hq
  intro p l e s m args below meth c D ad cA C H locs la hP hS hL
  obtain ⟨hst, hx, hb, hr, hml, hown, hts, hlk, hex, hK⟩ := id C
  exact lv_if_lt hx hb hd ht (fun h => kt h p l e s m args below meth c D ad cA C H locs la hP hS hL) (fun h => kf h p l e s m args below meth c D ad cA C H locs la hP hS hL)

theorem sm_icmp_lt {g : sm_G} {pc q t : Nat} {ls : List (Option Value)} {st : List Value} {M : sm_M} {x y : Int32} {off : Int} (hd : decode (sm_cc g) pc = .ok (.if_icmp .lt off, 3)) (hq : pc + 3 = q) (ht : (pc : Int) + off = (t : Int))
    (kt : x < y → sm_J g t ls st M) (kf : ¬ x < y → sm_J g q ls st M) : sm_J g pc ls (.int y :: .int x :: st) M := by
  subst hq
  intro p l e s m args below meth c D ad cA C H locs la hP hS hL
  obtain ⟨hst, hx, hb, hr, hml, hown, hts, hlk, hex, hK⟩ := id C
  exact lv_icmp_lt hx hb hd ht (fun h => kt h p l e s m args below meth c D ad cA C H locs la hP hS hL) (fun h => kf h p l e s m args below meth c D ad cA C H locs la hP hS hL)

theorem sm_if_ge {g : sm_G} {pc q t : Nat} {ls : List (Option Value)} {st : List Value} {M : sm_M} {x : Int32} {off : Int} (hd : decode (sm_cc g) pc = .ok (.ifCond .ge off, 3)) (hq : pc + 3 = q) (ht : (pc : Int) + off = (t : Int))
    (kt : 0 ≤ x → sm_J g t ls st M) (kf : ¬ 0 ≤ x → sm_J g q ls st M) : sm_J g pc ls (.int x :: st) M := by
  subst hq
  intro p l e s m args below meth c D ad cA C H locs la hP hS hL
  obtain ⟨hst, hx, hb, hr, hml, hown, hts, hlk, hex, hK⟩ := id C
  exact lv_if_ge hx hb hd ht (fun h => kt h p l e s m args below meth c D ad cA C H locs la hP hS hL) (fun h => kf h p l e s m args below meth c D ad cA C H locs la hP hS hL)

theorem sm_icmp_ge {g : sm_G} {pc q t : Nat} {ls : List (Option Value)} {st : List Value} {M : sm_M} {x y : Int32} {off : Int} (hd : decode (sm_cc g) pc = .ok (.if_icmp .ge off, 3)) (hq : pc + 3 = q) (ht : (pc : Int) + off = (t : Int))
    (kt : y ≤ x → sm_J g t ls st M) (kf : ¬ y ≤ x → sm_J g q ls st M) : sm_J g pc ls (.int y :: .int x :: st) M := by
  subst hq
  intro p l e s m args below meth c D ad cA C H locs la hP hS hL
  obtain ⟨hst, hx, hb, hr, hml, hown, hts, hlk, hex, hK⟩ := id C
  exact lv_icmp_ge hx hb hd ht (fun h => kt h p l e s m args below meth c D ad cA C H locs la hP hS hL) (fun h => kf h p l e s m args below meth c D ad cA C H locs la hP hS hL)

theorem sm_if_gt {g : sm_G} {pc q t : Nat} {ls : List (Option Value)} {st : List Value} {M : sm_M} {x : Int32} {off : Int} (hd : decode (sm_cc g) pc = .ok (.ifCond .gt off, 3)) (hq : pc + 3 = q) (ht : (pc : Int) + off = (t : Int))
    (kt : 0 < x → sm_J g t ls st M) (kf : ¬ 0 < x → sm_J g q ls st M) : sm_J g pc ls (.int x :: st) M := by
  subst hq
  intro p l e s m args below meth c D ad cA C H locs la hP hS hL
  obtain ⟨hst, hx, hb, hr, hml, hown, hts, hlk, hex, hK⟩ := id C
  exact lv_if_gt hx hb hd ht (fun h => kt h p l e s m args below meth c D ad cA C H locs la hP hS hL) (fun h => kf h p l e s m args below meth c D ad cA C H locs la hP hS hL)

theorem sm_icmp_gt {g : sm_G} {pc q t : Nat} {ls : List (Option Value)} {st : List Value} {M : sm_M} {x y : Int32} {off : Int} (hd : decode (sm_cc g) pc = .ok (.if_icmp .gt off, 3)) (hq : pc + 3 = q) (ht : (pc : Int) + off = (t : Int))
    (kt : y < x → sm_J g t ls st M) (kf : ¬ y < x → sm_J g q ls st M) : sm_J g pc ls (.int y :: .int x :: st) M := by
  subst hq
  intro p l e s m args below meth c D ad cA C H locs la hP hS hL
  obtain ⟨hst, hx, hb, hr, hml, hown, hts, hlk, hex, hK⟩ := id C
  exact lv_icmp_gt hx hb hd ht (fun h => kt h p l e s m args below meth c D ad cA C H locs la hP hS hL) (fun h => kf h p l e s m args below meth c D ad cA C H locs la hP hS hL)

theorem sm_if_le {g : sm_G} {pc q t : Nat} {ls : List (Option Value)} {st : List Value} {M : sm_M} {x : Int32} {off : Int} (hd : decode (sm_cc g) pc = .ok (.ifCond .le off, 3)) (hq : pc + 3 = q) (ht : (pc : Int) + off = (t : Int))
    (kt : x ≤ 0 → sm_J g t ls st M) (kf : ¬ x ≤ 0 → sm_J g q ls st M) : sm_J g pc ls (.int x :: st) M := by
  subst hq
  intro p l e s m args below meth c D ad cA C H locs la hP hS hL
  obtain ⟨hst, hx, hb, hr, hml, hown, hts, hlk, hex, hK⟩ := id C
  exact lv_if_le hx hb hd ht (fun h => kt h p l e s m args below meth c D ad cA C H locs la hP hS hL) (fun h => kf h p l e s m args below meth c D ad cA C H locs la hP hS hL)

theorem sm_icmp_le {g : sm_G} {pc q t : Nat} {ls : List (Option Value)} {st : List Value} {M : sm_M} {x y : Int32} {off : Int} (hd : decode (sm_cc g) pc = .ok (.if_icmp .le off, 3)) (hq : pc + 3 = q) (ht : (pc : Int) + off = (t : Int))
    (kt : x ≤ y → sm_J g t ls st M) (kf : ¬ x ≤ y → sm_J g q ls st M) : sm_J g pc ls (.int y :: .int x :: st) M := by
  subst hq
  intro p l e s m args below meth c D ad cA C H locs la hP hS hL
  obtain ⟨hst, hx, hb, hr, hml, hown, hts, hlk, hex, hK⟩ := id C
  exact lv_icmp_le hx hb hd ht (fun h => kt h p l e s m args below meth c D ad cA C H locs la hP hS hL) (fun h => kf h p l e s m args below meth c D ad cA C H locs la hP hS hL)

theorem sm_goto {g : sm_G} {pc t : Nat} {ls : List (Option Value)} {st : List Value} {M : sm_M} {off : Int} (hd : decode (sm_cc g) pc = .ok (.goto off, 3)) (ht : (pc : Int) + off = (t : Int))
    (k : sm_J g t ls st M) : sm_J g pc ls st M := by
  intro p l e s m args below meth c D ad cA C H locs la hP hS hL
  obtain ⟨hst, hx, hb, hr, hml, hown, hts, hlk, hex, hK⟩ := id C
  exact lv_goto hx hb hd ht (k p l e s m args below meth c D ad cA C H locs la hP hS hL)

theorem sm_geti {g : sm_G} {pc q : Nat} {ls : List (Option Value)} {st : List Value} {M : sm_M} {i a ci j : Nat} {fs : List (Option Nat)} (hd : decode (sm_cc g) pc = .ok (.getfield i, 3)) (hq : pc + 3 = q) (F : sm_FL (sm_own g) i ci j) (ha : (sm_sk g)[a]? = some (.inr (ci, fs))) (hf : fs[j]? = some none)
    (k : sm_J g q ls (.int (M.1 a j) :: st) M) : sm_J g pc ls (.ref a :: st) M := by
  subst hq
  intro p l e s m args below meth c D ad cA C H locs la hP hS hL
  obtain ⟨hst, hx, hb, hr, hml, hown, hts, hlk, hex, hK⟩ := id C
  obtain ⟨⟨C0, T0, N0⟩, hc, hj, hw⟩ := F
  exact va_get (D := D) (ci := ci) (v := .int (M.1 a j)) (C := C0) (T := T0) (N := N0) hx hb hts (sm_in hc) hown hK.1 hP a (sm_at ha) hc j hj (hts _ hw) (fun _ h9 => h9) (by rw [List.getElem?_mapIdx, hf]; rfl) hd (k p l e s m args below meth c D ad cA C H locs la hP hS hL)

theorem sm_getr {g : sm_G} {pc q : Nat} {ls : List (Option Value)} {st : List Value} {M : sm_M} {i a ci j r : Nat} {fs : List (Option Nat)} (hd : decode (sm_cc g) pc = .ok (.getfield i, 3)) (hq : pc + 3 = q) (F : sm_FL (sm_own g) i ci j) (ha : (sm_sk g)[a]? = some (.inr (ci, fs))) (hf : fs[j]? = some (some r))
    (k : sm_J g q ls (.ref r :: st) M) : sm_J g pc ls (.ref a :: st) M := by
  subst hq
  intro p l e s m args below meth c D ad cA C H locs la hP hS hL
  obtain ⟨hst, hx, hb, hr, hml, hown, hts, hlk, hex, hK⟩ := id C
  obtain ⟨⟨C0, T0, N0⟩, hc, hj, hw⟩ := F
  exact va_get (D := D) (ci := ci) (v := .ref (ad r)) (C := C0) (T := T0) (N := N0) hx hb hts (sm_in hc) hown hK.1 hP a (sm_at ha) hc j hj (hts _ hw) (fun _ h9 => h9) (by rw [List.getElem?_mapIdx, hf]; rfl) hd (k p l e s m args below meth c D ad cA C H locs la hP hS hL)

theorem sm_puti {g : sm_G} {pc q : Nat} {ls : List (Option Value)} {st : List Value} {M : sm_M} {i a ci j : Nat} {v : Int32} {fs : List (Option Nat)} (hd : decode (sm_cc g) pc = .ok (.putfield i, 3)) (hq : pc + 3 = q) (F : sm_FW (sm_own g) i ci j) (ha : (sm_sk g)[a]? = some (.inr (ci, fs))) (hf : fs[j]? = some none) (hn : narrow (sm_tyf ci j) (.int v) = .int v) (hfit : fits (sm_tyf ci j) (.int v) = true)
    (k : sm_J g q ls st (sm_mi M a j v)) : sm_J g pc ls (.int v :: .ref a :: st) M := by
  subst hq
  intro p l e s m args below meth c D ad cA C H locs la hP hS hL
  obtain ⟨hst, hx, hb, hr, hml, hown, hts, hlk, hex, hK⟩ := id C
  obtain ⟨⟨C0, T0, N0⟩, hc, hj, hw, hfin⟩ := F
  have hD : va_D (sm_A ad (sm_sk g).length s.heap.size) (sm_ws ad cA (sm_sk g) M) := sm_D hK.2.1
  refine va_put (D := D) (ci := ci) (v := .int v) (ty := sm_tyf ci j) (C := C0) (T := T0) (N := N0) hx hb hts (sm_in hc) (sm_tyf ci) (sm_ty_ok hc) (sm_nm_ok hc) hown hK.1 hP hD hS a (sm_at ha) hc j hj (hts _ hw) (fun _ h9 => h9) hfin (sm_ty_ok hc j hj) hn hfit (by rw [List.length_mapIdx]; exact (List.getElem?_eq_some_iff.mp hf).1) hd (fun H1 locs1 hP1 _ hS1 => ?_)
  rw [sm_putf ha hf] at hP1
  exact k p l e s m args below meth c D ad cA C H1 locs1 la hP1 hS1 hL

theorem sm_iaload {g : sm_G} {pc q : Nat} {ls : List (Option Value)} {st : List Value} {M : sm_M} {a n : Nat} {i : Int32} {rs : List Nat} (hd : decode (sm_cc g) pc = .ok (.iaload, 1)) (hq : pc + 1 = q) (ha : (sm_sk g)[a]? = some (.inl (0, n, rs))) (hi : vp_in i n)
    (k : sm_J g q ls (.int (M.1 a i.toNatClampNeg) :: st) M) : sm_J g pc ls (.int i :: .ref a :: st) M := by
  subst hq
  intro p l e s m args below meth c D ad cA C H locs la hP hS hL
  obtain ⟨hst, hx, hb, hr, hml, hown, hts, hlk, hex, hK⟩ := id C
  exact va_iald hx hb hK.1 hP a 0 (sm_at ha) rfl hi hd (k p l e s m args below meth c D ad cA C H locs la hP hS hL)

theorem sm_caload {g : sm_G} {pc q : Nat} {ls : List (Option Value)} {st : List Value} {M : sm_M} {a n : Nat} {i : Int32} {rs : List Nat} (hd : decode (sm_cc g) pc = .ok (.caload, 1)) (hq : pc + 1 = q) (ha : (sm_sk g)[a]? = some (.inl (1, n, rs))) (hi : vp_in i n)
    (k : sm_J g q ls (.int (M.1 a i.toNatClampNeg) :: st) M) : sm_J g pc ls (.int i :: .ref a :: st) M := by
  subst hq
  intro p l e s m args below meth c D ad cA C H locs la hP hS hL
  obtain ⟨hst, hx, hb, hr, hml, hown, hts, hlk, hex, hK⟩ := id C
  exact va_cald hx hb hK.1 hP a 1 (sm_at ha) rfl hi hd (k p l e s m args below meth c D ad cA C H locs la hP hS hL)

theorem sm_baload {g : sm_G} {pc q : Nat} {ls : List (Option Value)} {st : List Value} {M : sm_M} {a n : Nat} {i : Int32} {rs : List Nat} (hd : decode (sm_cc g) pc = .ok (.baload, 1)) (hq : pc + 1 = q) (ha : (sm_sk g)[a]? = some (.inl (2, n, rs))) (hi : vp_in i n)
    (k : sm_J g q ls (.int (M.1 a i.toNatClampNeg) :: st) M) : sm_J g pc ls (.int i :: .ref a :: st) M := by
  subst hq
  intro p l e s m args below meth c D ad cA C H locs la hP hS hL
  obtain ⟨hst, hx, hb, hr, hml, hown, hts, hlk, hex, hK⟩ := id C
  exact va_zald hx hb hK.1 hP a 2 (sm_at ha) rfl hi hd (k p l e s m args below meth c D ad cA C H locs la hP hS hL)

theorem sm_laload {g : sm_G} {pc q : Nat} {ls : List (Option Value)} {st : List Value} {M : sm_M} {a n : Nat} {i : Int32} {rs : List Nat} (hd : decode (sm_cc g) pc = .ok (.laload, 1)) (hq : pc + 1 = q) (ha : (sm_sk g)[a]? = some (.inl (3, n, rs))) (hi : vp_in i n)
    (k : sm_J g q ls (.long (M.2 a i.toNatClampNeg) :: st) M) : sm_J g pc ls (.int i :: .ref a :: st) M := by
  subst hq
  intro p l e s m args below meth c D ad cA C H locs la hP hS hL
  obtain ⟨hst, hx, hb, hr, hml, hown, hts, hlk, hex, hK⟩ := id C
  exact va_lald hx hb hK.1 hP a 3 (sm_at ha) rfl hi hd (k p l e s m args below meth c D ad cA C H locs la hP hS hL)

theorem sm_iastore {g : sm_G} {pc q : Nat} {ls : List (Option Value)} {st : List Value} {M : sm_M} {a n : Nat} {i x : Int32} {rs : List Nat} (hd : decode (sm_cc g) pc = .ok (.iastore, 1)) (hq : pc + 1 = q) (ha : (sm_sk g)[a]? = some (.inl (0, n, rs))) (hi : vp_in i n)
    (k : sm_J g q ls st (sm_mi M a i.toNatClampNeg x)) : sm_J g pc ls (.int x :: .int i :: .ref a :: st) M := by
  subst hq
  intro p l e s m args below meth c D ad cA C H locs la hP hS hL
  obtain ⟨hst, hx, hb, hr, hml, hown, hts, hlk, hex, hK⟩ := id C
  refine va_iast hx hb hK.1 hP (sm_D hK.2.1) hS a 0 (sm_at ha) rfl hi hd (fun H1 locs1 hP1 _ hS1 => ?_)
  have hP2 : va_P D sm_cl (sm_ws ad cA (sm_sk g) (sm_mi M a i.toNatClampNeg x)) H1 := by
    rw [← sm_puta ha (by decide)]
    exact hP1
  exact k p l e s m args below meth c D ad cA C H1 locs1 la hP2 hS1 hL

theorem sm_castore {g : sm_G} {pc q : Nat} {ls : List (Option Value)} {st : List Value} {M : sm_M} {a n : Nat} {i x : Int32} {rs : List Nat} (hd : decode (sm_cc g) pc = .ok (.castore, 1)) (hq : pc + 1 = q) (ha : (sm_sk g)[a]? = some (.inl (1, n, rs))) (hi : vp_in i n)
    (k : sm_J g q ls st (sm_mi M a i.toNatClampNeg (vp_nar .char x))) : sm_J g pc ls (.int x :: .int i :: .ref a :: st) M := by
  subst hq
  intro p l e s m args below meth c D ad cA C H locs la hP hS hL
  obtain ⟨hst, hx, hb, hr, hml, hown, hts, hlk, hex, hK⟩ := id C
  refine va_cast hx hb hK.1 hP (sm_D hK.2.1) hS a 1 (sm_at ha) rfl hi hd (fun H1 locs1 hP1 _ hS1 => ?_)
  have hP2 : va_P D sm_cl (sm_ws ad cA (sm_sk g) (sm_mi M a i.toNatClampNeg (vp_nar .char x))) H1 := by
    rw [← sm_puta ha (by decide)]
    exact hP1
  exact k p l e s m args below meth c D ad cA C H1 locs1 la hP2 hS1 hL

theorem sm_bastore {g : sm_G} {pc q : Nat} {ls : List (Option Value)} {st : List Value} {M : sm_M} {a n : Nat} {i x : Int32} {rs : List Nat} (hd : decode (sm_cc g) pc = .ok (.bastore, 1)) (hq : pc + 1 = q) (ha : (sm_sk g)[a]? = some (.inl (2, n, rs))) (hi : vp_in i n)
    (k : sm_J g q ls st (sm_mi M a i.toNatClampNeg (vp_nar .boolean x))) : sm_J g pc ls (.int x :: .int i :: .ref a :: st) M := by
  subst hq
  intro p l e s m args below meth c D ad cA C H locs la hP hS hL
  obtain ⟨hst, hx, hb, hr, hml, hown, hts, hlk, hex, hK⟩ := id C
  refine va_zast hx hb hK.1 hP (sm_D hK.2.1) hS a 2 (sm_at ha) rfl hi hd (fun H1 locs1 hP1 _ hS1 => ?_)
  have hP2 : va_P D sm_cl (sm_ws ad cA (sm_sk g) (sm_mi M a i.toNatClampNeg (vp_nar .boolean x))) H1 := by
    rw [← sm_puta ha (by decide)]
    exact hP1
  exact k p l e s m args below meth c D ad cA C H1 locs1 la hP2 hS1 hL

theorem sm_lastore {g : sm_G} {pc q : Nat} {ls : List (Option Value)} {st : List Value} {M : sm_M} {a n : Nat} {i : Int32} {x : Int64} {rs : List Nat} (hd : decode (sm_cc g) pc = .ok (.lastore, 1)) (hq : pc + 1 = q) (ha : (sm_sk g)[a]? = some (.inl (3, n, rs))) (hi : vp_in i n)
    (k : sm_J g q ls st (sm_ml M a i.toNatClampNeg x)) : sm_J g pc ls (.long x :: .int i :: .ref a :: st) M := by
  subst hq
  intro p l e s m args below meth c D ad cA C H locs la hP hS hL
  obtain ⟨hst, hx, hb, hr, hml, hown, hts, hlk, hex, hK⟩ := id C
  refine va_last hx hb hK.1 hP (sm_D hK.2.1) hS a 3 (sm_at ha) rfl hi hd (fun H1 locs1 hP1 _ hS1 => ?_)
  have hP2 : va_P D sm_cl (sm_ws ad cA (sm_sk g) (sm_ml M a i.toNatClampNeg x)) H1 := by
    rw [← sm_putl ha]
    exact hP1
  exact k p l e s m args below meth c D ad cA C H1 locs1 la hP2 hS1 hL

theorem sm_arraylength {g : sm_G} {pc q : Nat} {ls : List (Option Value)} {st : List Value} {M : sm_M} {a n kd : Nat} {v : Int32} {rs : List Nat} (hd : decode (sm_cc g) pc = .ok (.arraylength, 1)) (hq : pc + 1 = q) (ha : (sm_sk g)[a]? = some (.inl (kd, n, rs))) (hk : kd < 6) (hv : Int32.ofNat n = v)
    (k : sm_J g q ls (.int v :: st) M) : sm_J g pc ls (.ref a :: st) M := by
  subst hq
  intro p l e s m args below meth c D ad cA C H locs la hP hS hL
  obtain ⟨hst, hx, hb, hr, hml, hown, hts, hlk, hex, hK⟩ := id C
  obtain ⟨ty, ht⟩ := sm_tys_at cA hk
  exact va_alen hx hb hK.1 hP a kd (sm_at ha) ht hv hd (k p l e s m args below meth c D ad cA C H locs la hP hS hL)

theorem sm_aaload {g : sm_G} {pc q : Nat} {ls : List (Option Value)} {st : List Value} {M : sm_M} {a n kd r : Nat} {i : Int32} {rs : List Nat} (hd : decode (sm_cc g) pc = .ok (.aaload, 1)) (hq : pc + 1 = q) (ha : (sm_sk g)[a]? = some (.inl (kd, n, rs))) (hk : kd = 4 ∨ kd = 5) (hi : vp_in i n) (hr9 : rs[i.toNatClampNeg]? = some r)
    (k : sm_J g q ls (.ref r :: st) M) : sm_J g pc ls (.int i :: .ref a :: st) M := by
  subst hq
  intro p l e s m args below meth c D ad cA C H locs la hP hS hL
  obtain ⟨hst, hx, hb, hr, hml, hown, hts, hlk, hex, hK⟩ := id C
  exact sm_aald hx hb hK.1 hP a (sm_at ha) hk hi hr9 hd (k p l e s m args below meth c D ad cA C H locs la hP hS hL)

theorem sm_iret {g : sm_G} {pc : Nat} {ls : List (Option Value)} {M : sm_M} {v : Int32} {ty : FieldType} (hd : decode (sm_cc g) pc = .ok (.ireturn, 1)) (ht : sm_rt g = some ty) (hn : narrow ty (.int v) = .int v) (ho : sm_o g = .inl (some (.int v))) (hM : sm_mf g = M) : sm_J g pc ls [.int v] M := by
  intro p l e s m args below meth c D ad cA C H locs la hP hS hL
  obtain ⟨hst, hx, hb, hr, hml, hown, hts, hlk, hex, hK⟩ := id C
  have hk : sm_k (sm_o g) = 0 := by rw [ho]; rfl
  rw [hk]
  refine vx_ret ?_
  exact W.zret hx hb (hr.trans ht) hn (fun t ht' hW => ⟨⟨_, ho, rfl, by rw [ht', hM]; exact hP⟩, hS.F ht'⟩) hS.2.2 hd
theorem sm_lret {g : sm_G} {pc : Nat} {ls : List (Option Value)} {M : sm_M} {v : Int64} (hd : decode (sm_cc g) pc = .ok (.lreturn, 1)) (ht : sm_rt g = some .long) (ho : sm_o g = .inl (some (.long v))) (hM : sm_mf g = M) : sm_J g pc ls [.long v] M := by
  intro p l e s m args below meth c D ad cA C H locs la hP hS hL
  obtain ⟨hst, hx, hb, hr, hml, hown, hts, hlk, hex, hK⟩ := id C
  have hk : sm_k (sm_o g) = 0 := by rw [ho]; rfl
  rw [hk]
  refine vx_ret ?_
  exact W.lret hx hb (hr.trans ht) (fun t ht' hW => ⟨⟨_, ho, rfl, by rw [ht', hM]; exact hP⟩, hS.F ht'⟩) hS.2.2 hd
theorem sm_vret {g : sm_G} {pc : Nat} {ls : List (Option Value)} {M : sm_M} (hd : decode (sm_cc g) pc = .ok (.return_, 1)) (ht : sm_rt g = none) (ho : sm_o g = .inl none) (hM : sm_mf g = M) : sm_J g pc ls [] M := by
  intro p l e s m args below meth c D ad cA C H locs la hP hS hL
  obtain ⟨hst, hx, hb, hr, hml, hown, hts, hlk, hex, hK⟩ := id C
  have hk : sm_k (sm_o g) = 0 := by rw [ho]; rfl
  rw [hk]
  refine vx_ret ?_
  exact W.vret hx hb (hr.trans ht) (fun t ht' hW => ⟨⟨_, ho, rfl, by rw [ht', hM]; exact hP⟩, hS.F ht'⟩) hS.2.2 hd
theorem sm_aret {g : sm_G} {pc a : Nat} {ls : List (Option Value)} {M : sm_M} {nm : String} (hd : decode (sm_cc g) pc = .ok (.areturn, 1)) (ht : sm_rt g = some (.object nm)) (ho : sm_o g = .inl (some (.ref a))) (hM : sm_mf g = M) : sm_J g pc ls [.ref a] M := by
  intro p l e s m args below meth c D ad cA C H locs la hP hS hL
  obtain ⟨hst, hx, hb, hr, hml, hown, hts, hlk, hex, hK⟩ := id C
  have hk : sm_k (sm_o g) = 0 := by rw [ho]; rfl
  rw [hk]
  refine vx_ret ?_
  exact W.aret (v := .ref (ad a)) hx hb (hr.trans ht) (Or.inl ⟨_, rfl⟩) (Or.inr ⟨_, rfl⟩) (fun t ht' hW => ⟨⟨_, ho, rfl, by rw [ht', hM]; exact hP⟩, hS.F ht'⟩) hS.2.2 hd
/-! forgetting locals -/
def sm_clr (is : List Nat) (ls : List (Option Value)) : List (Option Value) := is.foldl (fun l i => l.set i none) ls
theorem sm_clr1 {ad : Nat → Nat} {la : Array Slot} {n i : Nat} {ls : List (Option Value)} (h : lv_has la n (sm_lv ad ls)) : lv_has la n (sm_lv ad (ls.set i none)) := by
  refine ⟨h.1, h.2.1, fun q hq => ?_⟩
  obtain ⟨u, h1, h2⟩ := sm_lvm.mp hq
  apply h.2.2 q
  by_cases hi : q.1 = i
  · rw [hi] at h1
    have hl : i < ls.length := by
      have := (List.getElem?_eq_some_iff.mp h1).1
      rwa [List.length_set] at this
    rw [List.getElem?_set_self hl] at h1
    cases h1
  · rw [List.getElem?_set_ne (Ne.symm hi)] at h1
    exact sm_lvm.mpr ⟨u, h1, h2⟩
theorem sm_clrn {ad : Nat → Nat} {la : Array Slot} {n : Nat} (is : List Nat) : ∀ {ls : List (Option Value)}, lv_has la n (sm_lv ad ls) → lv_has la n (sm_lv ad (sm_clr is ls)) := by
  induction is with
  | nil => intro ls h; exact h
  | cons i is ih => intro ls h; exact ih (sm_clr1 h)
theorem sm_fg {g : sm_G} {pc : Nat} {ls : List (Option Value)} {st : List Value} {M : sm_M} (is : List Nat) (k : sm_J g pc (sm_clr is ls) st M) : sm_J g pc ls st M := by
  intro p l e s m args below meth c D ad cA C H locs la hP hS hL
  exact k p l e s m args below meth c D ad cA C H locs la hP hS (sm_clrn is hL)
/-! calls -/
theorem sm_K.go {D : va_G} {ad : Nat → Nat} {cA : Nat → ClassId} {n : Nat} {s U : State} {H : Heap} {locs : List Loc} (h : sm_K D ad cA n s) (hS : va_S (sm_A ad n s.heap.size) s.heap H locs) (hU : U.heap = H) (hW : s.WarmedH U.vm) : sm_K D ad cA n U := by
  obtain ⟨h1, h2, h3, h4, h5, h6, h7, h8⟩ := h
  have hk : ∀ a : Nat, a < s.heap.size → ¬ sm_ad ad n a → H[a]? = s.heap[a]? := fun a ha hn => hS.2.1 a ha (fun z => by
    rcases z with z | z
    · exact hn z
    · omega)
  refine ⟨va_K.moved hW.alike h1, h2, ?_, ?_, fun q hq => ?_, fun q hq => va_Nw.warmC hW (h6 q hq), fun q hq => va_Nw.warmD hW (h7 q hq), fun q hq => va_Nc.moved hW.alike (h8 q hq)⟩
  · rw [hU]; exact vx_Zq.kept (vx_Zq.moved hW.alike h3) hk
  · rw [hU]; exact vx_Zq.kept (vx_Zq.moved hW.alike h4) hk
  · obtain ⟨a, ha⟩ := h5 q hq
    exact ⟨a, vk_R.warm hW ha⟩
theorem sm_blind {D : va_G} {ad : Nat → Nat} {cA : Nat → ClassId} {sk : List sm_Sh} {sz : Nat} {av : List Value} {M : sm_M} : FrameBlind (sm_Pc D ad cA sk sz av M) := by
  intro a U g mk h
  obtain ⟨h1, h2, h3, h4⟩ := h
  refine ⟨h1, h2, h3, ?_⟩
  exact sm_K.go (s := U) (U := U.calling g mk a) (H := U.heap) (locs := []) h4 va_S.rf rfl (State.WarmedH.refl U)
/-- a virtual call's words -/
def sm_LV (own : String) (i : Nat) (y : MethodName) (md : sm_Md) (n : Nat) : Prop :=
  Cond.methodLink own i y ∈ sm_TB ∧ Cond.instanceMethod y ∈ sm_TB ∧ Cond.selects y.cls y y ∈ sm_TB ∧ Cond.initialized y.cls ∈ sm_TB ∧ Cond.code y md.2.1 md.2.2.1 md.2.2.2 ∈ sm_TB ∧ md.2.2.1 ≤ 40 ∧ (y.cls ≠ "java/lang/invoke/MethodHandle" ∧ y.cls ≠ "java/lang/invoke/VarHandle" ∧ (parseMethodDescriptor y.desc).map (fun d => d.parameters.length) = some n)
def sm_LS (own : String) (i : Nat) (y : MethodName) (md : sm_Md) (n : Nat) : Prop :=
  Cond.methodLink own i y ∈ sm_TB ∧ Cond.static y ∈ sm_TB ∧ Cond.initialized y.cls ∈ sm_TB ∧ Cond.code y md.2.1 md.2.2.1 md.2.2.2 ∈ sm_TB ∧ md.2.2.1 ≤ 40 ∧ (y.cls ≠ "java/lang/invoke/MethodHandle" ∧ y.cls ≠ "java/lang/invoke/VarHandle" ∧ (parseMethodDescriptor y.desc).map (fun d => d.parameters.length) = some n)
theorem sm_runV {g : sm_G} {pc i a ci d' : Nat} {stk st : List Value} {M M1 : sm_M} {y : MethodName} {md : sm_Md} {av : List Value} {o : sm_O} {fs : List (Option Nat)} {q : vw_C} {p : Program} {l : Launch} {e : Env} {s : State} {m : MethodId} {args : Array Value} {below : List Frame} {meth : Method} {c : Code} {D : va_G} {ad : Nat → Nat} {cA : Nat → ClassId} {H : Heap} {locs : List Loc} {la : Array Slot}
    (C : sm_Cx g p l s m args meth c D ad cA) (hP : va_P D sm_cl (sm_ws ad cA (sm_sk g) M) H) (hS : va_S (sm_A ad (sm_sk g).length s.heap.size) s.heap H locs) (hn : la.size = sm_nL g) (hd : decode (sm_cc g) pc = .ok (.invokevirtual i, 3)) (L : sm_LV (sm_own g) i y md av.length) (ha : (sm_sk g)[a]? = some (.inr (ci, fs))) (hc : sm_cl[ci]? = some q) (hy : q.1 = y.cls) (hs : stk = av.reverse ++ .ref a :: st) (hw : (st.map fun v => v.category).sum ≤ 8) (hdd : d' < sm_d g) (hk : sm_k o ≤ sm_k (sm_o g))
    (h : sm_Ct y md d' (sm_sk g) (.ref a :: av) M o M1) :
    vx_Run p l e (sm_rm (sm_d g) (sm_k (sm_o g))) s m args below meth c H locs 0 0 (sm_k o) (6 * sm_k o) (F0 m pc la (stk.map (sm_cv ad))) (st.map (sm_cv ad)) (sm_Qc D ad cA (sm_sk g) H.size o M1 ((Value.ref a :: av).map (sm_cv ad)).toArray) (sm_XC D ad cA (sm_sk g) H.size o M1) (sm_A ad (sm_sk g).length H.size) := by
  obtain ⟨hst, hx, hb, hr, hml, hown, hts, hlk, hex, hK⟩ := C
  obtain ⟨w1, w2, w3, w4, w5, hmx, hnm⟩ := L
  obtain ⟨cell, r1, r2, r3⟩ := va_recv hK.1 hP hc (sm_at ha)
  refine vx_runV (As := av.map (sm_cv ad)) (rest := st.map (sm_cv ad)) (b := ad a) (Ts := sm_TB) (C := y.cls) (bytes := md.2.1) (maxL := md.2.2.1) (ret := md.2.2.2) (n := av.length) ⟨hx, hb, hml, hown, hts⟩ (h l D ad cA H.size hst) ⟨callB_of av.length hts (sm_good w5 rfl (fun _ h => h)) rfl rfl rfl (hts _ w4) (hts _ w1) hnm ⟨?_, ?_⟩, hts _ w2, hts _ w3⟩ ⟨sm_blind, ⟨cell, r1, r2, by rw [← hy]; exact r3⟩, fun U hU hW => ⟨rfl, by rw [hU], by rw [hU]; exact hP, hK.go hS hU hW⟩⟩ rfl (List.length_map _) hn ?_ (lv_room ?_) hd ⟨?_, ?_⟩
  · show d' + 1 ≤ sm_d g
    omega
  · show 8 + (md.2.2.1 + 11) + 64 * d' ≤ 64 * sm_d g
    omega
  · show stk.map (sm_cv ad) = _
    rw [hs]
    simp [sm_cv]
  · rw [List.map_map]
    simpa [Function.comp_def, sm_cat] using hw
  · show 0 + sm_k o ≤ sm_k (sm_o g)
    omega
  · show 0 + 6 * sm_k o ≤ 6 * sm_k (sm_o g)
    omega
theorem sm_runS {g : sm_G} {pc i d' : Nat} {stk st : List Value} {M M1 : sm_M} {y : MethodName} {md : sm_Md} {av : List Value} {o : sm_O} {p : Program} {l : Launch} {e : Env} {s : State} {m : MethodId} {args : Array Value} {below : List Frame} {meth : Method} {c : Code} {D : va_G} {ad : Nat → Nat} {cA : Nat → ClassId} {H : Heap} {locs : List Loc} {la : Array Slot}
    (C : sm_Cx g p l s m args meth c D ad cA) (hP : va_P D sm_cl (sm_ws ad cA (sm_sk g) M) H) (hS : va_S (sm_A ad (sm_sk g).length s.heap.size) s.heap H locs) (hn : la.size = sm_nL g) (hd : decode (sm_cc g) pc = .ok (.invokestatic i, 3)) (L : sm_LS (sm_own g) i y md av.length) (hs : stk = av.reverse ++ st) (hw : (st.map fun v => v.category).sum ≤ 8) (hdd : d' < sm_d g) (hk : sm_k o ≤ sm_k (sm_o g))
    (h : sm_Ct y md d' (sm_sk g) av M o M1) :
    vx_Run p l e (sm_rm (sm_d g) (sm_k (sm_o g))) s m args below meth c H locs 0 0 (sm_k o) (6 * sm_k o) (F0 m pc la (stk.map (sm_cv ad))) (st.map (sm_cv ad)) (sm_Qc D ad cA (sm_sk g) H.size o M1 (av.map (sm_cv ad)).toArray) (sm_XC D ad cA (sm_sk g) H.size o M1) (sm_A ad (sm_sk g).length H.size) := by
  obtain ⟨hst, hx, hb, hr, hml, hown, hts, hlk, hex, hK⟩ := C
  obtain ⟨w1, w3, w4, w5, hmx, hnm⟩ := L
  refine vx_runS (As := av.map (sm_cv ad)) (rest := st.map (sm_cv ad)) (Ts := sm_TB) (bytes := md.2.1) (maxL := md.2.2.1) (ret := md.2.2.2) (n := av.length) ⟨hx, hb, hml, hown, hts⟩ (h l D ad cA H.size hst) ⟨callB_of av.length hts (sm_good w5 rfl (fun _ h => h)) rfl rfl rfl (hts _ w4) (hts _ w1) hnm ⟨?_, ?_⟩, hts _ w3⟩ ⟨sm_blind, fun U hU hW => ⟨rfl, by rw [hU], by rw [hU]; exact hP, hK.go hS hU hW⟩⟩ rfl (List.length_map _) hn ?_ (lv_room ?_) hd ⟨?_, ?_⟩
  · show d' + 1 ≤ sm_d g
    omega
  · show 8 + (md.2.2.1 + 11) + 64 * d' ≤ 64 * sm_d g
    omega
  · show stk.map (sm_cv ad) = _
    rw [hs]
    simp
  · rw [List.map_map]
    simpa [Function.comp_def, sm_cat] using hw
  · show 0 + sm_k o ≤ sm_k (sm_o g)
    omega
  · show 0 + 6 * sm_k o ≤ 6 * sm_k (sm_o g)
    omega
theorem sm_A_up {ad : Nat → Nat} {n : Nat} {s : State} {H : Heap} {A : Nat → Prop} {locs : List Loc} (hS : va_S A s.heap H locs) (q : Nat) (h : sm_A ad n H.size q) : sm_A ad n s.heap.size q := by
  rcases h with h | h
  · exact Or.inl h
  · exact Or.inr (Nat.le_trans hS.1 h)
/-- behind a call that returns -/
theorem sm_back {g : sm_G} {pc : Nat} {ls : List (Option Value)} {st : List Value} {stA : List Value} {M1 : sm_M} {v : Option Value} {aa : Array Value} {p : Program} {l : Launch} {e : Env} {s : State} {m : MethodId} {args : Array Value} {below : List Frame} {meth : Method} {c : Code} {D : va_G} {ad : Nat → Nat} {cA : Nat → ClassId} {H : Heap} {locs : List Loc} {la : Array Slot}
    (C : sm_Cx g p l s m args meth c D ad cA) (hS : va_S (sm_A ad (sm_sk g).length s.heap.size) s.heap H locs) (hL : lv_has la (sm_nL g) (sm_lv ad ls))
    (hr : vx_Run p l e (sm_rm (sm_d g) (sm_k (sm_o g))) s m args below meth c H locs 0 0 (sm_k (.inl v)) (6 * sm_k (.inl v)) (F0 m pc la stA) (st.map (sm_cv ad)) (sm_Qc D ad cA (sm_sk g) H.size (.inl v) M1 aa) (sm_XC D ad cA (sm_sk g) H.size (.inl v) M1) (sm_A ad (sm_sk g).length H.size))
    (k : sm_J g (pc + 3) ls (v.toList ++ st) M1) :
    W p l e (sm_rm (sm_d g) (sm_k (sm_o g))) s m args below meth c H locs 0 0 (vx_MQ below (sm_Qc D ad cA (sm_sk g) s.heap.size (sm_o g) (sm_mf g)) (sm_XC D ad cA (sm_sk g) s.heap.size (sm_o g) (sm_mf g)) args s (sm_k (sm_o g)) (6 * sm_k (sm_o g)) (sm_A ad (sm_sk g).length s.heap.size)) (F0 m pc la stA) := by
  intro T hT X
  rcases hr T hT X with ⟨v', st₀, t, T', L, h0, X', hLl, e1, e2, ⟨⟨v2, hv1, hv2, hP1⟩, hF⟩, stp⟩ | ⟨q, st₀, t, T', L, E, ce, h0, X', hLl, e1, e2, ⟨hbad, -⟩, -⟩
  · cases hv1
    cases hv2
    obtain ⟨k1, k2, k3⟩ := vx_keep h0 e1 hS (fun q _ h => sm_A_up hS q h) (fun q h => sm_A_up hS q h) hLl hF
    obtain ⟨t2, a1, b1⟩ := k p l e s m args below meth c D ad cA C T'.heap (locs ++ L) la (by rw [e1]; exact hP1) k3 hL T' rfl X'
    refine ⟨t2, stp t2 ?_, b1⟩
    have he : (v.toList ++ st).map (sm_cv ad) = (v.map (sm_cv ad)).toList ++ st.map (sm_cv ad) := by cases v <;> simp
    rw [he] at a1
    exact a1
  · cases hbad
theorem sm_callV {g : sm_G} {pc q i a ci d' : Nat} {ls : List (Option Value)} {stk : List Value} (st : List Value) {M M1 : sm_M} {y : MethodName} {md : sm_Md} (av : List Value) {v : Option Value} {fs : List (Option Nat)} {r : vw_C}
    (hd : decode (sm_cc g) pc = .ok (.invokevirtual i, 3)) (hq : pc + 3 = q) (L : sm_LV (sm_own g) i y md av.length) (ha : (sm_sk g)[a]? = some (.inr (ci, fs))) (hc : sm_cl[ci]? = some r) (hy : r.1 = y.cls) (hs : stk = av.reverse ++ .ref a :: st) (hw : (st.map fun v => v.category).sum ≤ 8) (hdd : d' < sm_d g)
    (h : sm_Ct y md d' (sm_sk g) (.ref a :: av) M (.inl v) M1) {st9 : List Value} (hs9 : v.toList ++ st = st9) (k : sm_J g q ls st9 M1) : sm_J g pc ls stk M := by
  subst hq
  subst hs9
  intro p l e s m args below meth c D ad cA C H locs la hP hS hL
  exact sm_back C hS hL (sm_runV C hP hS hL.1 hd L ha hc hy hs hw hdd (Nat.zero_le _) h) k
theorem sm_callS {g : sm_G} {pc q i d' : Nat} {ls : List (Option Value)} {stk : List Value} (st : List Value) {M M1 : sm_M} {y : MethodName} {md : sm_Md} (av : List Value) {v : Option Value}
    (hd : decode (sm_cc g) pc = .ok (.invokestatic i, 3)) (hq : pc + 3 = q) (L : sm_LS (sm_own g) i y md av.length) (hs : stk = av.reverse ++ st) (hw : (st.map fun v => v.category).sum ≤ 8) (hdd : d' < sm_d g)
    (h : sm_Ct y md d' (sm_sk g) av M (.inl v) M1) {st9 : List Value} (hs9 : v.toList ++ st = st9) (k : sm_J g q ls st9 M1) : sm_J g pc ls stk M := by
  subst hq
  subst hs9
  intro p l e s m args below meth c D ad cA C H locs la hP hS hL
  exact sm_back C hS hL (sm_runS C hP hS hL.1 hd L hs hw hdd (Nat.zero_le _) h) k
/-- a call that throws: it goes on to the caller -/
theorem sm_callVX {g : sm_G} {pc i a ci d' : Nat} {ls : List (Option Value)} {stk : List Value} (st : List Value) {M M1 : sm_M} {y : MethodName} {md : sm_Md} (av : List Value) {E : String} {fs : List (Option Nat)} {r : vw_C}
    (hd : decode (sm_cc g) pc = .ok (.invokevirtual i, 3)) (L : sm_LV (sm_own g) i y md av.length) (ha : (sm_sk g)[a]? = some (.inr (ci, fs))) (hc : sm_cl[ci]? = some r) (hy : r.1 = y.cls) (hs : stk = av.reverse ++ .ref a :: st) (hw : (st.map fun v => v.category).sum ≤ 8) (hdd : d' < sm_d g)
    (h : sm_Ct y md d' (sm_sk g) (.ref a :: av) M (.inr E) M1) (ho : sm_o g = .inr E) (hM : sm_mf g = M1) : sm_J g pc ls stk M := by
  intro p l e s m args below meth c D ad cA C H locs la hP hS hL
  have hr := sm_runV (e := e) (below := below) C hP hS hL.1 hd L ha hc hy hs hw hdd (by rw [ho]; exact Nat.le_refl _) h
  obtain ⟨hst, hx, hb, hr9, hml, hown, hts, hlk, hex, hK⟩ := id C
  intro T hT X
  rcases hr T hT X with ⟨v', st₀, t, T', L, h0, X', hLl, e1, e2, ⟨⟨v2, hv1, -⟩, -⟩, -⟩ | ⟨q, st₀, t, T', L, E', ce, h0, X', hLl, e1, e2, ⟨hE, hP1, hF⟩, hce, hcv, hcl, stp⟩
  · cases hv1
  · cases hE
    obtain ⟨k1, k2, k3⟩ := vx_keep h0 e1 hS (fun q _ h => sm_A_up hS q h) (fun q h => sm_A_up hS q h) hLl hF
    have hk1 : sm_k (sm_o g) = 1 := by rw [ho]; rfl
    have ho' := vx_out (p := p) (l := l) (e := e) (R := sm_rm (sm_d g) (sm_k (sm_o g))) (s := s) (m := m) (args := args) (below := below) (meth := meth) (c := c) (H := T'.heap) (locs := locs ++ L) (cells := 0 + sm_k (.inr E)) (slots := 0 + 6 * sm_k (.inr E)) (mc := sm_k (sm_o g)) (ms := 6 * sm_k (sm_o g)) (free := sm_A ad (sm_sk g).length s.heap.size) (ls := la) (rest := st.map (sm_cv ad)) (pc := pc) (E := E) (ce := ce) (q := q) (Qc := sm_Qc D ad cA (sm_sk g) s.heap.size (sm_o g) (sm_mf g)) (XC := sm_XC D ad cA (sm_sk g) s.heap.size (sm_o g) (sm_mf g))
      (fun x hx => (hex x hx).elim) hlk (by rw [e1]; exact hce) hcv hcl (fun t' ht' _ => ⟨ho, by rw [ht', e1, hM]; exact hP1, k3.F ht'⟩) k3.2.2 (by rw [hk1]; exact Nat.le_refl _) (by rw [hk1]; exact Nat.le_refl _)
    obtain ⟨t2, a1, b1⟩ := ho' T' rfl X'
    exact ⟨t2, stp.trans a1, b1⟩
/-! a method's entry -/
def sm_ls : List Value → List (Option Value)
  | [] => []
  | v :: vs => if v.category = 2 then some v :: none :: sm_ls vs else some v :: sm_ls vs
theorem sm_lsl (ad : Nat → Nat) : ∀ av : List Value, (lg_sl (av.map (sm_cv ad))).length = (sm_ls av).length
  | [] => rfl
  | v :: vs => by
    have ih := sm_lsl ad vs
    simp only [lg_sl] at ih
    by_cases h : v.category = 2
    · simp [lg_sl, sm_ls, sm_cat, h, ih]
    · simp [lg_sl, sm_ls, sm_cat, h, ih]
theorem sm_lsa (ad : Nat → Nat) (n : Nat) : ∀ (av : List Value) (i0 i : Nat) (v : Value), (sm_ls av ++ List.replicate n none)[i]? = some (some v) → (i0 + i, sm_cv ad v) ∈ lv_args i0 (av.map (sm_cv ad))
  | [], i0, i, v, h => by
    simp [sm_ls, List.getElem?_replicate] at h
  | u :: vs, i0, i, v, h => by
    by_cases hu : u.category = 2
    · simp only [sm_ls, if_pos hu, List.cons_append] at h
      simp only [List.map_cons, lv_args, sm_cat, if_pos hu]
      match i, h with
      | 0, h => simp at h; subst h; exact List.mem_cons_self
      | 1, h => simp at h
      | i + 2, h =>
        simp only [List.getElem?_cons_succ] at h
        have := sm_lsa ad n vs (i0 + 2) i v h
        rw [show i0 + (i + 2) = i0 + 2 + i by omega]
        exact List.mem_cons_of_mem _ this
    · simp only [sm_ls, if_neg hu, List.cons_append] at h
      simp only [List.map_cons, lv_args, sm_cat, if_neg hu]
      match i, h with
      | 0, h => simp at h; subst h; exact List.mem_cons_self
      | i + 1, h =>
        simp only [List.getElem?_cons_succ] at h
        have := sm_lsa ad n vs (i0 + 1) i v h
        rw [show i0 + (i + 1) = i0 + 1 + i by omega]
        exact List.mem_cons_of_mem _ this
theorem sm_enter {y : MethodName} {md : sm_Md} {d : Nat} {sk : List sm_Sh} {av : List Value} {M M' : sm_M} {o : sm_O} (n : Nat) {ls0 : List (Option Value)} (hy : plainName y.cls = true) (hown : md.1 = y.cls) (hl : (sm_ls av).length ≤ md.2.2.1) (hls : sm_ls av ++ List.replicate n none = ls0) (h : sm_J (md, d, sk, o, M') 0 ls0 [] M) : sm_Ct y md d sk av M o M' := by
  intro l D ad cA sz hst
  refine vx_ofW (cc := md.2.1) (maxL := md.2.2.1) (ret := md.2.2.2) hy rfl ?_
  intro p e s m args below meth c s₁ B hml hex hv
  obtain ⟨rfl, hsz, hP, hK⟩ := hv
  subst hsz
  have hts := atoms_spec (ws := Cond.code y md.2.1 md.2.2.1 md.2.2.2 :: sm_TB) B.pre
  have hown' : s.vm.findClass y.cls = some m.cls := findClass_of_methodNamed B.named
  have he := lv_entry (av.map (sm_cv ad)) (n := md.2.2.1) (by rw [sm_lsl]; exact hl)
  rw [lg_entry_eq]
  refine h p l e s m _ below meth c D ad cA ⟨hst, B.exec, B.bytes, B.returns, hml, by show s.vm.findClass md.1 = _; rw [hown]; exact hown', fun w hw => hts w (List.mem_cons_of_mem _ hw), B.notSynchronized, hex, hK⟩ s.heap [] _ hP va_S.rf ⟨he.1, he.2.1, fun q hq => he.2.2 q ?_⟩
  obtain ⟨u, h1, h2⟩ := sm_lvm.mp hq
  rw [← hls] at h1
  have := sm_lsa ad n av 0 q.1 u h1
  rw [Nat.zero_add, ← h2] at this
  exact this
/-! System.arraycopy of ints -/
def sm_mc (M : sm_M) (a b sp dp n : Nat) : sm_M := (fun x i => if x = b then va_cpy (M.1 a) (M.1 b) sp dp n i else M.1 x i, M.2)
def sm_LC (own : String) (i : Nat) : Prop := Cond.methodLink own i arraycopyName ∈ sm_TB ∧ Cond.native arraycopyName ∈ sm_TB ∧ Cond.static arraycopyName ∈ sm_TB ∧ Cond.initialized "java/lang/System" ∈ sm_TB
theorem sm_copy {g : sm_G} {pc q i a b n0 n1 : Nat} {ls : List (Option Value)} {st : List Value} {M : sm_M} {sp dp n : Int32} {r0 r1 : List Nat} (hd : decode (sm_cc g) pc = .ok (.invokestatic i, 3)) (hq : pc + 3 = q) (L : sm_LC (sm_own g) i) (ha : (sm_sk g)[a]? = some (.inl (0, n0, r0))) (hb9 : (sm_sk g)[b]? = some (.inl (0, n1, r1))) (h1 : ¬ sp < 0) (h2 : ¬ dp < 0) (h3 : ¬ n < 0) (h4 : sp.toNatClampNeg + n.toNatClampNeg ≤ n0) (h5 : dp.toNatClampNeg + n.toNatClampNeg ≤ n1) (hw : (st.map fun v => v.category).sum ≤ 8) (hdd : 0 < sm_d g)
    (k : sm_J g q ls st (sm_mc M a b sp.toNatClampNeg dp.toNatClampNeg n.toNatClampNeg)) : sm_J g pc ls (.int n :: .int dp :: .ref b :: .int sp :: .ref a :: st) M := by
  subst hq
  intro p l e s m args below meth c D ad cA C H locs la hP hS hL
  obtain ⟨hst, hx, hb, hr, hml, hown, hts, hlk, hex, hK⟩ := id C
  obtain ⟨w1, w2, w3, w4⟩ := L
  refine va_copyi (ty := .int) hx hb (by rw [hml]; exact hL.1.symm) hown (hts _ w1) (hts _ w2) (hts _ w3) (hts _ w4) hK.1 hP (sm_D hK.2.1) hS a b 0 0 (sm_at ha) (sm_at hb9) rfl rfl rfl h1 h2 h3 h4 h5 (fun _ _ => rfl) hdd ?_ hd (fun H1 locs1 hP1 _ hS1 => ?_)
  · have h6 : ((st.map (sm_cv ad)).map fun v => v.category).sum ≤ 8 := by
      rw [List.map_map]
      simpa [Function.comp_def, sm_cat] using hw
    have h7 : nativeFrameWords "java/lang/System" "arraycopy" 5 + 11 ≤ 56 := by decide
    show _ ≤ 64 * sm_d g
    omega
  · have hP2 : va_P D sm_cl (sm_ws ad cA (sm_sk g) (sm_mc M a b sp.toNatClampNeg dp.toNatClampNeg n.toNatClampNeg)) H1 := by
      rw [← sm_set (M := M) (M' := sm_mc M a b sp.toNatClampNeg dp.toNatClampNeg n.toNatClampNeg) hb9 (fun x hx9 => by funext j; simp [sm_mc, hx9]) (fun _ _ => rfl)]
      have e9 : (sm_mc M a b sp.toNatClampNeg dp.toNatClampNeg n.toNatClampNeg).1 b = va_cpy (M.1 a) (M.1 b) sp.toNatClampNeg dp.toNatClampNeg n.toNatClampNeg := by
        funext j
        simp [sm_mc]
      simp only [sm_cell, sm_arr, e9]
      exact hP1
    exact k p l e s m args below meth c D ad cA C H1 locs1 la hP2 hS1 hL

/-! what printed functions are made of -/
def sm_g {α : Type} (b : Bool) (k : Option α) : Option α := match b with
  | true => k
  | false => none
theorem sm_gt {α : Type} {b : Bool} {k : Option α} {r : α} (h : sm_g b k = some r) : b = true ∧ k = some r := by
  cases b with
  | true => exact ⟨rfl, h⟩
  | false => cases h
def sm_ib (i : Int32) (n : Nat) : Bool := !(decide (i < 0)) && decide (i.toNatClampNeg < n)
theorem sm_ib_of {i : Int32} {n : Nat} (h : sm_ib i n = true) : vp_in i n := by
  simp only [sm_ib, Bool.and_eq_true, Bool.not_eq_true', decide_eq_false_iff_not, decide_eq_true_eq] at h
  intro z
  rcases z with z | z
  · exact h.1 z
  · omega
def sm_nz (y : Int32) : Bool := !(decide (y = 0))
theorem sm_nz_of {y : Int32} (h : sm_nz y = true) : ¬ y = 0 := by
  simpa [sm_nz] using h
def sm_nzl (y : Int64) : Bool := !(decide (y = 0))
theorem sm_nzl_of {y : Int64} (h : sm_nzl y = true) : ¬ y = 0 := by
  simpa [sm_nzl] using h
def sm_nar (ty : FieldType) (v : Int32) : Bool := decide (narrow ty (.int v) = .int v) && fits ty (.int v)
theorem sm_nar_of {ty : FieldType} {v : Int32} (h : sm_nar ty v = true) : narrow ty (.int v) = .int v ∧ fits ty (.int v) = true := by
  simpa [sm_nar] using h
def sm_cpb (sp dp n : Int32) (n0 n1 : Nat) : Bool := !(decide (sp < 0)) && (!(decide (dp < 0)) && (!(decide (n < 0)) && (decide (sp.toNatClampNeg + n.toNatClampNeg ≤ n0) && decide (dp.toNatClampNeg + n.toNatClampNeg ≤ n1))))
theorem sm_cpb_of {sp dp n : Int32} {n0 n1 : Nat} (h : sm_cpb sp dp n n0 n1 = true) : ¬ sp < 0 ∧ ¬ dp < 0 ∧ ¬ n < 0 ∧ sp.toNatClampNeg + n.toNatClampNeg ≤ n0 ∧ dp.toNatClampNeg + n.toNatClampNeg ≤ n1 := by
  simpa [sm_cpb] using h
theorem sm_it {α : Type} {c : Prop} [Decidable c] {a b : Option α} {r : α} (hc : c) (h : (if c then a else b) = some r) : a = some r := by
  rwa [if_pos hc] at h
theorem sm_if {α : Type} {c : Prop} [Decidable c] {a b : Option α} {r : α} (hc : ¬ c) (h : (if c then a else b) = some r) : b = some r := by
  rwa [if_neg hc] at h
theorem sm_bd {α β : Type} {x : Option α} {k : α → Option β} {r : β} (h : x.bind k = some r) : ∃ a, x = some a ∧ k a = some r := by
  cases x with
  | none => cases h
  | some a => exact ⟨a, rfl, h⟩
/-- behind a call that may throw -/
def sm_bx (x : Option (sm_O × sm_M)) (k : sm_M → Option (sm_O × sm_M)) : Option (sm_O × sm_M) := match x with
  | none => none
  | some (.inl _, M1) => k M1
  | some (.inr E, M1) => some (.inr E, M1)
theorem sm_bxs {x : Option (sm_O × sm_M)} {k : sm_M → Option (sm_O × sm_M)} {r : sm_O × sm_M} (h : sm_bx x k = some r) : (∃ v M1, x = some (.inl v, M1) ∧ k M1 = some r) ∨ ∃ E M1, x = some (.inr E, M1) ∧ r = (.inr E, M1) := by
  match x, h with
  | some (.inl v, M1), h => exact Or.inl ⟨v, M1, rfl, h⟩
  | some (.inr E, M1), h => exact Or.inr ⟨E, M1, rfl, (Option.some.inj h).symm⟩
def sm_ext (base sk : List sm_Sh) : Prop := ∀ {a : Nat} {sh : sm_Sh}, base[a]? = some sh → sk[a]? = some sh
def sm_row (sk : List sm_Sh) (a : Nat) : Prop := sk[a]? = some (.inr (7, [some (a + 1), none])) ∧ sk[a + 1]? = some (.inl (0, 240, []))
def sm_codes (sk : List sm_Sh) (a : Nat) : Prop := sk[a]? = some (.inr (1, [some (a + 1), some (a + 2), none])) ∧ sk[a + 1]? = some (.inl (0, 200, [])) ∧ sk[a + 2]? = some (.inl (0, 200, []))
def sm_fan (sk : List sm_Sh) (a : Nat) : Prop := sk[a]? = some (.inr (3, [some (a + 1), some (a + 2), some (a + 3)])) ∧ sk[a + 1]? = some (.inl (0, 200, [])) ∧ sk[a + 2]? = some (.inl (0, 200, [])) ∧ sk[a + 3]? = some (.inl (0, 201, []))
def sm_ints (sk : List sm_Sh) (a n : Nat) : Prop := sk[a]? = some (.inl (0, n, []))
def sm_longs (sk : List sm_Sh) (a n : Nat) : Prop := sk[a]? = some (.inl (3, n, []))
/-- what returns, returns nothing -/
def sm_nv (x : Option (sm_O × sm_M)) : Prop := ∀ (v : Option Value) (M1 : sm_M), x = some (.inl v, M1) → v = none
theorem sm_nv_if {c : Prop} [Decidable c] {a b : Option (sm_O × sm_M)} (ha : sm_nv a) (hb : sm_nv b) : sm_nv (if c then a else b) := by
  by_cases h : c
  · rw [if_pos h]; exact ha
  · rw [if_neg h]; exact hb
theorem sm_nv_ret {M : sm_M} : sm_nv (some (.inl none, M)) := fun v M1 h => by cases h; rfl
theorem sm_nv_thr {M : sm_M} {E : String} : sm_nv (some (.inr E, M)) := fun v M1 h => by cases h
theorem sm_nv_bd {α : Type} {x : Option α} {k : α → Option (sm_O × sm_M)} (h : ∀ q, sm_nv (k q)) : sm_nv (x.bind k) := by
  intro v M1 h1
  obtain ⟨q, -, h2⟩ := sm_bd h1
  exact h q v M1 h2
