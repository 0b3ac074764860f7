/-! ===== the law's walk: its machine (lj_), over class, reference, the long[1] at 102 and the script at 103 ===== -/
def R_law : String := "UniversalCyclesLaw"
def lw_P (b : Addr) (xs : List Int32) (args : Array Value) (s : State) : Prop := args = #[.ref b] ∧ s.IntsAt b xs ∧ xs.length ≤ 2048 ∧ (Jvm.Cond.and given_1 narrow_1).before args s = true
def lw_Q (_ : Array Value) (s : State) (o : Outcome) (t : State) : Prop := o = .returned (some (.int 1)) ∧ Framed s o t [] 603072 7166058
def lw_Z (below : List Frame) (a : Array Value) (s : State) : State → Prop := fun t => ∃ o, t.status = .running ∧ Ended t below o ∧ lw_Q a s o t
/-- the law's own end, with 1 on the stack, nothing written that was there before, its room as the claim has it -/
theorem lw_ret {p : Program} {l : Launch} {e : Env} {s : State} {m : MethodId} {below : List Frame} {meth : Method} {c : Code} {b : Nat} (hx : p.tables.exec = Jvm.exec) (hb : c.code = code) (hr : meth.sig.returnType = ret) (hlocks : meth.locks = false) {pc : Nat} {H : Heap} {ls : Array Slot} (hdg : decode code pc = .ok (.ireturn, 1)) : W p l e room_1 s m #[Value.ref b] below meth c H [] 603072 7166058 (lw_Z below #[Value.ref b] s) (F0 m pc ls [.int 1]) := by
  intro T hT X
  obtain ⟨fs, hret, hrun, hended, hW, hframe⟩ := X.leave (v := some (.int 1)) (hlocks := hlocks) (fun h => by rw [hr] at h; cases h)
  have hmeth' : T.vm.method? m = some meth := X.method'
  refine ⟨T.setFrames fs, ?_, .returned (some (.int 1)), hrun, hended, rfl, ⟨_, rfl⟩, hW, hframe⟩
  jvm_step X.here [X.here.top, hx, hb, hdg, hmeth', hr, ret, narrow_b1]
  (try refine ⟨rfl, ?_⟩); (try refine ⟨rfl, ?_⟩)
  first | (intro acts; rw [hret _ acts rfl rfl rfl]) | rw [hret _ _ rfl rfl rfl]
  exact Steps.refl _
/-- what holds at the law's entry: the machine, the code, the tables' words (any of lw_tbl by 'hts w (by decide +kernel)'), the script of L ints xs at the cell b, what the Statement gives of the start (any of its parts by flat_of_before) -/
def lw_At (p : Program) (s : State) (m : MethodId) (meth : Method) (c : Code) (b L : Nat) (xs : Nat → Int32) : Prop :=
  p.tables.exec = Jvm.exec ∧ c.code = code ∧ meth.sig.returnType = ret ∧ c.maxLocals = 8 ∧ s.vm.findClass R_law = some m.cls ∧ (∀ w ∈ lw_tbl, w.before #[Value.ref b] s = true) ∧ va_X b L xs s s.heap ∧ b < s.heap.size ∧ meth.locks = false ∧ (Jvm.Cond.and given_1 narrow_1).before #[Value.ref b] s = true
abbrev skL : List sm_Sh := skM ++ [.inl (3, 1, [])]
theorem lj_x : sm_ext skX skL := by
  intro a sh h
  have h1 : a < skX.length := (List.getElem?_eq_some_iff.mp h).1
  show ((skX ++ _) ++ _)[a]? = _
  rw [List.append_assoc, List.getElem?_append_left h1]
  exact h
theorem lj_m : sm_ext skM skL := by
  intro a sh h
  have h1 : a < skM.length := (List.getElem?_eq_some_iff.mp h).1
  rw [List.getElem?_append_left h1]
  exact h
theorem lj_len : skL.length = 103 := rfl
theorem lj_102 : skL[102]? = some (.inl (3, 1, [])) := rfl
theorem lj_0 : skL[0]? = some (.inr (11, [some 1, some 5, some 24, some 26, some 52, some 57, some 62, some 64, some 67, some 76, none, some 77, none, some 78, none, none, none, none])) := lj_x sx_0
theorem lj_80 : skL[80]? = some (.inr (12, [none, none, none, none, some 81, none, some 82, none, some 83, some 84, some 85, some 86, none, some 87, some 88, none, some 89, some 90, none, some 91, none, some 92, some 93, some 94, some 95, some 96, some 97, some 98, some 99, some 100, none, none, none, none, none, some 101])) := lj_m sx_80
def lj_ad (B b a : Nat) : Nat := if a < 103 then B + a else b
theorem lj_adl {B b a : Nat} (h : a < 103) : lj_ad B b a = B + a := if_pos h
def lj_Cx (L : Nat) (xs : Nat → Int32) (p : Program) (l : Launch) (s : State) (m : MethodId) (meth : Method) (c : Code) (D : va_G) (b : Nat) (cA : Nat → ClassId) : Prop :=
  l.stackTraces = false ∧ p.tables.exec = Jvm.exec ∧ c.code = code ∧ meth.sig.returnType = ret ∧ c.maxLocals = 8 ∧ s.vm.findClass RL = some m.cls ∧ (∀ w ∈ sm_TB, w.before #[Value.ref b] s = true) ∧ meth.locks = false ∧ va_X b L xs s s.heap ∧ b < s.heap.size ∧ nm_K D s.heap.size cA s
def lj_J (L : Nat) (xs : Nat → Int32) (pc : Nat) (ls : List (Option Value)) (st : List Value) (M : sm_M) (nc ns : Nat) : Prop :=
  ∀ (p : Program) (l : Launch) (e : Env) (s : State) (m : MethodId) (below : List Frame) (meth : Method) (c : Code) (D : va_G) (b : Nat) (cA : Nat → ClassId),
    lj_Cx L xs p l s m meth c D b cA → ∀ (H : Heap) (locs : List Loc) (la : Array Slot), va_P D sm_cl (sm_ws (lj_ad s.heap.size b) cA skL M) H → va_S (fun q => s.heap.size ≤ q) s.heap H locs → lv_has la 8 (sm_lv (lj_ad s.heap.size b) ls) →
    W p l e room_1 s m #[Value.ref b] below meth c H locs nc ns (lw_Z below #[Value.ref b] s) (F0 m pc la (st.map (sm_cv (lj_ad s.heap.size b))))
theorem lj_up {B b : Nat} {H : Heap} (hB : B ≤ H.size) (q : Nat) (h : sm_A (lj_ad B b) skL.length H.size q) : B ≤ q := by
  rcases h with ⟨a9, h9, e9⟩ | h9
  · rw [lj_adl h9] at e9
    omega
  · omega
theorem lj_sm {D : va_G} {B b : Nat} {cA : Nat → ClassId} {U : State} (h : nm_K D B cA U) : sm_K D (lj_ad B b) cA skL.length U := by
  obtain ⟨h1, h3, h4, h5, h6, h7, h8, -⟩ := h
  refine ⟨h1, fun i j hi hj e => ?_, vx_Zq.narrow h3 (fun q ⟨a, ha, e⟩ => ?_), vx_Zq.narrow h4 (fun q ⟨a, ha, e⟩ => ?_), h5, h6, h7, h8⟩
  · rw [lj_adl hi, lj_adl hj] at e
    omega
  · rw [lj_adl ha] at e
    show B ≤ q
    omega
  · rw [lj_adl ha] at e
    show B ≤ q
    omega
theorem lj_iconst {L : Nat} {xs : Nat → Int32} {pc q nc ns : Nat} {ls : List (Option Value)} {st : List Value} {M : sm_M} {n : Int} {v : Int32} (hd : decode code pc = .ok (.iconst n, 1)) (hq : pc + 1 = q) (hv : Int32.ofInt n = v)
    (k : lj_J L xs q ls (.int v :: st) M nc ns) : lj_J L xs pc ls st M nc ns := by
  subst hq
  intro p l e s m below meth c D b cA C H locs la hP hS hL
  obtain ⟨hst, hx, hb, hr, hml, hown, hts, hlk, hX, hbB, hK⟩ := id C
  exact lv_iconst hx hb hd hv (k p l e s m below meth c D b cA C H locs la hP hS hL)
theorem lj_bipush {L : Nat} {xs : Nat → Int32} {pc q nc ns : Nat} {ls : List (Option Value)} {st : List Value} {M : sm_M} {n : Int} {v : Int32} (hd : decode code pc = .ok (.bipush n, 2)) (hq : pc + 2 = q) (hv : (Int8.ofInt n).toInt32 = v)
    (k : lj_J L xs q ls (.int v :: st) M nc ns) : lj_J L xs pc ls st M nc ns := by
  subst hq
  intro p l e s m below meth c D b cA C H locs la hP hS hL
  obtain ⟨hst, hx, hb, hr, hml, hown, hts, hlk, hX, hbB, hK⟩ := id C
  exact lv_bipush hx hb hd hv (k p l e s m below meth c D b cA C H locs la hP hS hL)
theorem lj_iload_n {L : Nat} {xs : Nat → Int32} {pc q nc ns : Nat} {ls : List (Option Value)} {st : List Value} {M : sm_M} {n : Fin 4} {x : Int32} (hd : decode code pc = .ok (.iload_n n, 1)) (hq : pc + 1 = q) (hv : ls[(n : Nat)]? = some (some (.int x)))
    (k : lj_J L xs q ls (.int x :: st) M nc ns) : lj_J L xs pc ls st M nc ns := by
  subst hq
  intro p l e s m below meth c D b cA C H locs la hP hS hL
  obtain ⟨hst, hx, hb, hr, hml, hown, hts, hlk, hX, hbB, hK⟩ := id C
  exact lv_iload_n hx hb hd rfl (sm_lvat hL hv) (k p l e s m below meth c D b cA C H locs la hP hS hL)
theorem lj_iload {L : Nat} {xs : Nat → Int32} {pc q nc ns : Nat} {ls : List (Option Value)} {st : List Value} {M : sm_M} {i : Nat} {x : Int32} (hd : decode code pc = .ok (.iload i, 2)) (hq : pc + 2 = q) (hv : ls[i]? = some (some (.int x)))
    (k : lj_J L xs q ls (.int x :: st) M nc ns) : lj_J L xs pc ls st M nc ns := by
  subst hq
  intro p l e s m below meth c D b cA C H locs la hP hS hL
  obtain ⟨hst, hx, hb, hr, hml, hown, hts, hlk, hX, hbB, hK⟩ := id C
  exact lv_iload hx hb hd (sm_lvat hL hv) (k p l e s m below meth c D b cA C H locs la hP hS hL)
theorem lj_lload_n {L : Nat} {xs : Nat → Int32} {pc q nc ns : Nat} {ls : List (Option Value)} {st : List Value} {M : sm_M} {n : Fin 4} {x : Int64} (hd : decode code pc = .ok (.lload_n n, 1)) (hq : pc + 1 = q) (hv : ls[(n : Nat)]? = some (some (.long x)))
    (k : lj_J L xs q ls (.long x :: st) M nc ns) : lj_J L xs pc ls st M nc ns := by
  subst hq
  intro p l e s m below meth c D b cA C H locs la hP hS hL
  obtain ⟨hst, hx, hb, hr, hml, hown, hts, hlk, hX, hbB, hK⟩ := id C
  exact lv_lload_n hx hb hd rfl (sm_lvat hL hv) (k p l e s m below meth c D b cA C H locs la hP hS hL)
theorem lj_lload {L : Nat} {xs : Nat → Int32} {pc q nc ns : Nat} {ls : List (Option Value)} {st : List Value} {M : sm_M} {i : Nat} {x : Int64} (hd : decode code pc = .ok (.lload i, 2)) (hq : pc + 2 = q) (hv : ls[i]? = some (some (.long x)))
    (k : lj_J L xs q ls (.long x :: st) M nc ns) : lj_J L xs pc ls st M nc ns := by
  subst hq
  intro p l e s m below meth c D b cA C H locs la hP hS hL
  obtain ⟨hst, hx, hb, hr, hml, hown, hts, hlk, hX, hbB, hK⟩ := id C
  exact lv_lload hx hb hd (sm_lvat hL hv) (k p l e s m below meth c D b cA C H locs la hP hS hL)
theorem lj_aload_n {L : Nat} {xs : Nat → Int32} {pc q nc ns : Nat} {ls : List (Option Value)} {st : List Value} {M : sm_M} {n : Fin 4} {x : Nat} (hd : decode code pc = .ok (.aload_n n, 1)) (hq : pc + 1 = q) (hv : ls[(n : Nat)]? = some (some (.ref x)))
    (k : lj_J L xs q ls (.ref x :: st) M nc ns) : lj_J L xs pc ls st M nc ns := by
  subst hq
  intro p l e s m below meth c D b cA C H locs la hP hS hL
  obtain ⟨hst, hx, hb, hr, hml, hown, hts, hlk, hX, hbB, hK⟩ := id C
  exact lv_aload_n hx hb hd rfl (sm_lvat hL hv) (k p l e s m below meth c D b cA C H locs la hP hS hL)
theorem lj_aload {L : Nat} {xs : Nat → Int32} {pc q nc ns : Nat} {ls : List (Option Value)} {st : List Value} {M : sm_M} {i : Nat} {x : Nat} (hd : decode code pc = .ok (.aload i, 2)) (hq : pc + 2 = q) (hv : ls[i]? = some (some (.ref x)))
    (k : lj_J L xs q ls (.ref x :: st) M nc ns) : lj_J L xs pc ls st M nc ns := by
  subst hq
  intro p l e s m below meth c D b cA C H locs la hP hS hL
  obtain ⟨hst, hx, hb, hr, hml, hown, hts, hlk, hX, hbB, hK⟩ := id C
  exact lv_aload hx hb hd (sm_lvat hL hv) (k p l e s m below meth c D b cA C H locs la hP hS hL)
theorem lj_istore {L : Nat} {xs : Nat → Int32} {pc q nc ns : Nat} {ls : List (Option Value)} {st : List Value} {M : sm_M} {n : Nat} {x : Int32} (hd : decode code pc = .ok (.istore n, 2)) (hq : pc + 2 = q) (hn : n < 8) (ho : sm_ok1 ls n = true) {lt : List (Option Value)} (hl9 : ls.set n (some (.int x)) = lt)
    (k : lj_J L xs q lt st M nc ns) : lj_J L xs pc ls (.int x :: st) M nc ns := by
  subst hq
  intro p l e s m below meth c D b cA C H locs la hP hS hL
  obtain ⟨hst, hx, hb, hr, hml, hown, hts, hlk, hX, hbB, hK⟩ := id C
  subst hl9
  exact lv_istore hx hb hd hL hn rfl (fun la' hL' => k p l e s m below meth c D b cA C H locs la' hP hS (sm_lvst1 (v := .int x) ho rfl hL'))
theorem lj_lstore {L : Nat} {xs : Nat → Int32} {pc q nc ns : Nat} {ls : List (Option Value)} {st : List Value} {M : sm_M} {n : Nat} {x : Int64} (hd : decode code pc = .ok (.lstore n, 2)) (hq : pc + 2 = q) (hn : n + 1 < 8) (ho : sm_ok1 ls n = true) {lt : List (Option Value)} (hl9 : (ls.set n (some (.long x))).set (n + 1) none = lt)
    (k : lj_J L xs q lt st M nc ns) : lj_J L xs pc ls (.long x :: st) M nc ns := by
  subst hq
  intro p l e s m below meth c D b cA C H locs la hP hS hL
  obtain ⟨hst, hx, hb, hr, hml, hown, hts, hlk, hX, hbB, hK⟩ := id C
  subst hl9
  exact lv_lstore hx hb hd hL hn rfl (fun la' hL' => k p l e s m below meth c D b cA C H locs la' hP hS (sm_lvst2 (v := .long x) ho hL'))
theorem lj_iinc {L : Nat} {xs : Nat → Int32} {pc q nc ns : Nat} {ls : List (Option Value)} {st : List Value} {M : sm_M} {i : Nat} {n : Int} {x v : Int32} (hd : decode code pc = .ok (.iinc i n, 3)) (hq : pc + 3 = q) (hi : ls[i]? = some (some (.int x))) (hv : x + Int32.ofInt n = v) (hn : i < 8) (ho : sm_ok1 ls i = true) {lt : List (Option Value)} (hl9 : ls.set i (some (.int v)) = lt)
    (k : lj_J L xs q lt st M nc ns) : lj_J L xs pc ls st M nc ns := by
  subst hq
  intro p l e s m below meth c D b cA C H locs la hP hS hL
  obtain ⟨hst, hx, hb, hr, hml, hown, hts, hlk, hX, hbB, hK⟩ := id C
  subst hl9
  obtain ⟨kx, hkx⟩ := sm_lvk (ad := lj_ad s.heap.size b) hi
  exact lv_iinc hx hb hd hL hkx hv hn rfl (fun la' hL' => k p l e s m below meth c D b cA C H locs la' hP hS (sm_lvst1 (v := .int v) ho rfl hL'))
theorem lj_iadd {L : Nat} {xs : Nat → Int32} {pc q nc ns : Nat} {ls : List (Option Value)} {st : List Value} {M : sm_M} {x y : Int32} (hd : decode code pc = .ok (.iadd, 1)) (hq : pc + 1 = q)
    (k : lj_J L xs q ls (.int (x + y) :: st) M nc ns) : lj_J L xs pc ls (.int y :: .int x :: st) M nc ns := by
  subst hq
  intro p l e s m below meth c D b cA C H locs la hP hS hL
  obtain ⟨hst, hx, hb, hr, hml, hown, hts, hlk, hX, hbB, hK⟩ := id C
  exact lv_iadd hx hb hd (k p l e s m below meth c D b cA C H locs la hP hS hL)
theorem lj_isub {L : Nat} {xs : Nat → Int32} {pc q nc ns : Nat} {ls : List (Option Value)} {st : List Value} {M : sm_M} {x y : Int32} (hd : decode code pc = .ok (.isub, 1)) (hq : pc + 1 = q)
    (k : lj_J L xs q ls (.int (x - y) :: st) M nc ns) : lj_J L xs pc ls (.int y :: .int x :: st) M nc ns := by
  subst hq
  intro p l e s m below meth c D b cA C H locs la hP hS hL
  obtain ⟨hst, hx, hb, hr, hml, hown, hts, hlk, hX, hbB, hK⟩ := id C
  exact lv_isub hx hb hd (k p l e s m below meth c D b cA C H locs la hP hS hL)
theorem lj_iand {L : Nat} {xs : Nat → Int32} {pc q nc ns : Nat} {ls : List (Option Value)} {st : List Value} {M : sm_M} {x y : Int32} (hd : decode code pc = .ok (.iand, 1)) (hq : pc + 1 = q)
    (k : lj_J L xs q ls (.int (x &&& y) :: st) M nc ns) : lj_J L xs pc ls (.int y :: .int x :: st) M nc ns := by
  subst hq
  intro p l e s m below meth c D b cA C H locs la hP hS hL
  obtain ⟨hst, hx, hb, hr, hml, hown, hts, hlk, hX, hbB, hK⟩ := id C
  exact lv_iand hx hb hd (k p l e s m below meth c D b cA C H locs la hP hS hL)
theorem lj_lcmp {L : Nat} {xs : Nat → Int32} {pc q nc ns : Nat} {ls : List (Option Value)} {st : List Value} {M : sm_M} {x y : Int64} (hd : decode code pc = .ok (.lcmp, 1)) (hq : pc + 1 = q)
    (k : lj_J L xs q ls (.int (lg_cmp x y) :: st) M nc ns) : lj_J L xs pc ls (.long y :: .long x :: st) M nc ns := by
  subst hq
  intro p l e s m below meth c D b cA C H locs la hP hS hL
  obtain ⟨hst, hx, hb, hr, hml, hown, hts, hlk, hX, hbB, hK⟩ := id C
  exact W.lcmp hx hb hd (k p l e s m below meth c D b cA C H locs la hP hS hL)
theorem lj_i2l {L : Nat} {xs : Nat → Int32} {pc q nc ns : Nat} {ls : List (Option Value)} {st : List Value} {M : sm_M} {x : Int32} (hd : decode code pc = .ok (.i2l, 1)) (hq : pc + 1 = q)
    (k : lj_J L xs q ls (.long x.toInt64 :: st) M nc ns) : lj_J L xs pc ls (.int x :: st) M nc ns := by
  subst hq
  intro p l e s m below meth c D b cA C H locs la hP hS hL
  obtain ⟨hst, hx, hb, hr, hml, hown, hts, hlk, hX, hbB, hK⟩ := id C
  exact lv_i2l hx hb hd rfl (k p l e s m below meth c D b cA C H locs la hP hS hL)
theorem lj_i2c {L : Nat} {xs : Nat → Int32} {pc q nc ns : Nat} {ls : List (Option Value)} {st : List Value} {M : sm_M} {x : Int32} (hd : decode code pc = .ok (.i2c, 1)) (hq : pc + 1 = q)
    (k : lj_J L xs q ls (.int (x.toUInt32 % 65536).toInt32 :: st) M nc ns) : lj_J L xs pc ls (.int x :: st) M nc ns := by
  subst hq
  intro p l e s m below meth c D b cA C H locs la hP hS hL
  obtain ⟨hst, hx, hb, hr, hml, hown, hts, hlk, hX, hbB, hK⟩ := id C
  exact lv_i2c hx hb hd rfl (k p l e s m below meth c D b cA C H locs la hP hS hL)
theorem lj_laload {L : Nat} {xs : Nat → Int32} {pc q nc ns : Nat} {ls : List (Option Value)} {st : List Value} {M : sm_M} {a n : Nat} {i : Int32} {rs : List Nat} (hd : decode code pc = .ok (.laload, 1)) (hq : pc + 1 = q) (ha : skL[a]? = some (.inl (3, n, rs))) (hi : vp_in i n)
    (k : lj_J L xs q ls (.long (M.2 a i.toNatClampNeg) :: st) M nc ns) : lj_J L xs pc ls (.int i :: .ref a :: st) M nc ns := by
  subst hq
  intro p l e s m below meth c D b cA C H locs la hP hS hL
  obtain ⟨hst, hx, hb, hr, hml, hown, hts, hlk, hX, hbB, hK⟩ := id C
  exact va_lald hx hb hK.1 hP a 3 (sm_at ha) rfl hi hd (k p l e s m below meth c D b cA C H locs la hP hS hL)
theorem lj_if_eq {L : Nat} {xs : Nat → Int32} {pc q t nc ns : Nat} {ls : List (Option Value)} {st : List Value} {M : sm_M} {x : Int32} {off : Int} (hd : decode code pc = .ok (.ifCond .eq off, 3)) (hq : pc + 3 = q) (ht : (pc : Int) + off = (t : Int))
    (kt : x = 0 → lj_J L xs t ls st M nc ns) (kf : ¬ x = 0 → lj_J L xs q ls st M nc ns) : lj_J L xs pc ls (.int x :: st) M nc ns := by
  subst hq
  intro p l e s m below meth c D b cA C H locs la hP hS hL
  obtain ⟨hst, hx, hb, hr, hml, hown, hts, hlk, hX, hbB, hK⟩ := id C
  exact lv_if_eq hx hb hd ht (fun h => kt h p l e s m below meth c D b cA C H locs la hP hS hL) (fun h => kf h p l e s m below meth c D b cA C H locs la hP hS hL)
theorem lj_if_ne {L : Nat} {xs : Nat → Int32} {pc q t nc ns : Nat} {ls : List (Option Value)} {st : List Value} {M : sm_M} {x : Int32} {off : Int} (hd : decode code pc = .ok (.ifCond .ne off, 3)) (hq : pc + 3 = q) (ht : (pc : Int) + off = (t : Int))
    (kt : ¬ x = 0 → lj_J L xs t ls st M nc ns) (kf : x = 0 → lj_J L xs q ls st M nc ns) : lj_J L xs pc ls (.int x :: st) M nc ns := by
  subst hq
  intro p l e s m below meth c D b cA C H locs la hP hS hL
  obtain ⟨hst, hx, hb, hr, hml, hown, hts, hlk, hX, hbB, hK⟩ := id C
  exact lv_if_ne hx hb hd ht (fun h => kt h p l e s m below meth c D b cA C H locs la hP hS hL) (fun h => kf h p l e s m below meth c D b cA C H locs la hP hS hL)
theorem lj_icmp_eq {L : Nat} {xs : Nat → Int32} {pc q t nc ns : Nat} {ls : List (Option Value)} {st : List Value} {M : sm_M} {x y : Int32} {off : Int} (hd : decode code pc = .ok (.if_icmp .eq off, 3)) (hq : pc + 3 = q) (ht : (pc : Int) + off = (t : Int))
    (kt : x = y → lj_J L xs t ls st M nc ns) (kf : ¬ x = y → lj_J L xs q ls st M nc ns) : lj_J L xs pc ls (.int y :: .int x :: st) M nc ns := by
  subst hq
  intro p l e s m below meth c D b cA C H locs la hP hS hL
  obtain ⟨hst, hx, hb, hr, hml, hown, hts, hlk, hX, hbB, hK⟩ := id C
  exact lv_icmp_eq hx hb hd ht (fun h => kt h p l e s m below meth c D b cA C H locs la hP hS hL) (fun h => kf h p l e s m below meth c D b cA C H locs la hP hS hL)
theorem lj_icmp_gt {L : Nat} {xs : Nat → Int32} {pc q t nc ns : Nat} {ls : List (Option Value)} {st : List Value} {M : sm_M} {x y : Int32} {off : Int} (hd : decode code pc = .ok (.if_icmp .gt off, 3)) (hq : pc + 3 = q) (ht : (pc : Int) + off = (t : Int))
    (kt : y < x → lj_J L xs t ls st M nc ns) (kf : ¬ y < x → lj_J L xs q ls st M nc ns) : lj_J L xs pc ls (.int y :: .int x :: st) M nc ns := by
  subst hq
  intro p l e s m below meth c D b cA C H locs la hP hS hL
  obtain ⟨hst, hx, hb, hr, hml, hown, hts, hlk, hX, hbB, hK⟩ := id C
  exact lv_icmp_gt hx hb hd ht (fun h => kt h p l e s m below meth c D b cA C H locs la hP hS hL) (fun h => kf h p l e s m below meth c D b cA C H locs la hP hS hL)
theorem lj_goto {L : Nat} {xs : Nat → Int32} {pc t nc ns : Nat} {ls : List (Option Value)} {st : List Value} {M : sm_M} {off : Int} (hd : decode code pc = .ok (.goto off, 3)) (ht : (pc : Int) + off = (t : Int))
    (k : lj_J L xs t ls st M nc ns) : lj_J L xs pc ls st M nc ns := by
  intro p l e s m below meth c D b cA C H locs la hP hS hL
  obtain ⟨hst, hx, hb, hr, hml, hown, hts, hlk, hX, hbB, hK⟩ := id C
  exact lv_goto hx hb hd ht (k p l e s m below meth c D b cA C H locs la hP hS hL)
/-- behind a call that answers -/
theorem lj_callV {L : Nat} {xs : Nat → Int32} {pc q i a ci d' nc ns : Nat} {ls : List (Option Value)} {stk : List Value} (st : List Value) {M M1 : sm_M} {y : MethodName} {md : sm_Md} (av : List Value) {v : Value} {fs : List (Option Nat)} {r : vw_C}
    (hd : decode code pc = .ok (.invokevirtual i, 3)) (hq : pc + 3 = q) (L9 : sm_LV RL i y md av.length) (ha : skL[a]? = some (.inr (ci, fs))) (hc : sm_cl[ci]? = some r) (hy : r.1 = y.cls) (hs : stk = av.reverse ++ .ref a :: st) (hw : (st.map fun v => v.category).sum ≤ 8) (hdd : d' < 100) (hnc : nc ≤ 600000) (hns : ns ≤ 7000000)
    (h : sm_Ct y md d' skL (.ref a :: av) M (.inl (some v)) M1) (k : lj_J L xs q ls (v :: st) M1 nc ns) : lj_J L xs pc ls stk M nc ns := by
  subst hq
  intro p l e s m below meth c D b cA C H locs la hP hS hL
  obtain ⟨hst, hx, hb, hr, hml, hown, hts, hlk, hX, hbB, hK⟩ := id C
  obtain ⟨w1, w2, w3, w4, w5, hmx, hnm⟩ := L9
  obtain ⟨cell, r1, r2, r3⟩ := va_recv hK.1 hP hc (sm_at ha)
  have h6 : ((st.map (sm_cv (lj_ad s.heap.size b))).map fun v => v.category).sum ≤ 8 := by
    rw [List.map_map]
    simpa [Function.comp_def, sm_cat] using hw
  have hrun := vx_runV (p := p) (e := e) (R := room_1) (below := below) (meth := meth) (H := H) (locs := locs) (cells := nc) (slots := ns) (g := F0 m pc la (stk.map (sm_cv (lj_ad s.heap.size b)))) (As := av.map (sm_cv (lj_ad s.heap.size b))) (rest := st.map (sm_cv (lj_ad s.heap.size b))) (b := lj_ad s.heap.size b a) (Ts := sm_TB) (C := y.cls) (bytes := md.2.1) (maxL := md.2.2.1) (ret := md.2.2.2) (n := av.length) (nL := 8) ⟨hx, hb, hml, hown, hts⟩ (h l D (lj_ad s.heap.size b) cA H.size hst) ⟨callB_of av.length hts (sm_good w5 rfl (fun _ h => h)) rfl rfl rfl (hts _ w4) (hts _ w1) hnm ⟨by show d' + 1 ≤ 2048; omega, by show 8 + (md.2.2.1 + 11) + 64 * d' ≤ 94400; omega⟩, hts _ w2, hts _ w3⟩ ⟨sm_blind, ⟨cell, r1, r2, by rw [← hy]; exact r3⟩, fun U hU hW => ⟨rfl, by rw [hU], by rw [hU]; exact hP, lj_sm (hK.go hS hU hW)⟩⟩ rfl (List.length_map _) hL.1 (by show stk.map _ = _; rw [hs]; simp [sm_cv]) (lv_room h6) hd ⟨by show nc + 0 ≤ 603072; omega, by show ns + 6 * 0 ≤ 7166058; omega⟩
  intro T hT X
  rcases hrun T hT X with ⟨v', st₀, t, T', L2, g0, X', hLl, e1, e2, ⟨⟨v2, hv1, hv2, hP1⟩, hF⟩, stp⟩ | ⟨q, st₀, t, T', L2, E, ce, g0, X', hLl, e1, e2, ⟨hbad, -⟩, -⟩
  · cases hv1
    cases hv2
    obtain ⟨k1, k2, k3⟩ := vx_keep g0 e1 hS (fun q _ h => lj_up hS.1 q h) (fun q h => lj_up hS.1 q h) hLl hF
    obtain ⟨t2, a1, b1⟩ := k p l e s m below meth c D b cA C T'.heap (locs ++ L2) la (by rw [e1]; exact hP1) k3 hL T' rfl X'
    exact ⟨t2, stp t2 a1, b1⟩
  · cases hbad
def lj_LH (i : Nat) (y : MethodName) (md : sm_Md) (hh : List (Nat × Nat × Nat × Nat)) (n : Nat) : Prop :=
  Cond.methodLink RL i y ∈ sm_TB ∧ Cond.static y ∈ sm_TB ∧ Cond.initialized y.cls ∈ sm_TB ∧ Cond.codeWith y md.2.1 md.2.2.1 md.2.2.2 hh ∈ sm_TB ∧ md.2.2.1 ≤ 40 ∧ (y.cls ≠ "java/lang/invoke/MethodHandle" ∧ y.cls ≠ "java/lang/invoke/VarHandle") ∧ (parseMethodDescriptor y.desc).map (fun d => d.parameters.length) = some n
theorem lj_callH {L : Nat} {xs : Nat → Int32} {pc q i d' nc ns : Nat} {ls : List (Option Value)} {stk : List Value} (st : List Value) {M M1 : sm_M} {y : MethodName} {md : sm_Md} {hh : List (Nat × Nat × Nat × Nat)} (av : List Value) {kk : Int32}
    (hd : decode code pc = .ok (.invokestatic i, 3)) (hq : pc + 3 = q) (L9 : lj_LH i y md hh av.length) (hs : stk = av.reverse ++ st) (hw : (st.map fun v => v.category).sum ≤ 8) (hdd : d' < 100) (hnc : nc ≤ 600000) (hns : ns ≤ 7000000)
    (h : sm_CtH y md hh d' skL av M kk M1) (k : lj_J L xs q ls (.int kk :: st) M1 (nc + 1) (ns + 6)) : lj_J L xs pc ls stk M nc ns := by
  subst hq
  intro p l e s m below meth c D b cA C H locs la hP hS hL
  obtain ⟨hst, hx, hb, hr, hml, hown, hts, hlk, hX, hbB, hK⟩ := id C
  obtain ⟨w1, w2, w3, w5, hmx, hnm, hpr⟩ := L9
  have h6 : ((st.map (sm_cv (lj_ad s.heap.size b))).map fun v => v.category).sum ≤ 8 := by
    rw [List.map_map]
    simpa [Function.comp_def, sm_cat] using hw
  have hlen : ∀ sig, parseMethodDescriptor y.desc = some sig → av.length = sig.parameters.length := fun sig h => by
    rw [h] at hpr
    exact (Option.some.inj hpr).symm
  have hrun := vx_runSW (p := p) (e := e) (R := room_1) (below := below) (meth := meth) (H := H) (locs := locs) (cells := nc) (slots := ns) (g := F0 m pc la (stk.map (sm_cv (lj_ad s.heap.size b)))) (As := av.map (sm_cv (lj_ad s.heap.size b))) (rest := st.map (sm_cv (lj_ad s.heap.size b))) (Ts := sm_TB) (bytes := md.2.1) (maxL := md.2.2.1) (ret := md.2.2.2) (n := av.length) (nL := 8) ⟨hx, hb, hml, hown, hts⟩ (h l D (lj_ad s.heap.size b) cA H.size hst) ⟨⟨rfl, rfl, by show d' + 1 ≤ 2048; omega, by show 8 + (md.2.2.1 + 11) + 64 * d' ≤ 94400; omega, pay_in hts (sm_good w5 rfl (fun _ h => h)), List.mem_cons_self⟩, hts _ w5, hts _ w3, hnm, hlen, hts _ w1, hts _ w2⟩ ⟨sm_blind, fun U hU hW => ⟨rfl, by rw [hU], by rw [hU]; exact hP, lj_sm (hK.go hS hU hW)⟩⟩ rfl (List.length_map _) hL.1 (by show stk.map _ = _; rw [hs]; simp [sm_cv]) (lv_room h6) hd ⟨by show nc + 1 ≤ 603072; omega, by show ns + 6 ≤ 7166058; omega⟩
  intro T hT X
  obtain ⟨v', st₀, t, T', L2, g0, X', hLl, e1, e2, ⟨⟨v2, hv1, hv2, hP1⟩, hF⟩, stp⟩ := hrun T hT X
  cases hv1
  cases hv2
  obtain ⟨k1, k2, k3⟩ := vx_keep g0 e1 hS (fun q _ h => lj_up hS.1 q h) (fun q h => lj_up hS.1 q h) hLl hF
  obtain ⟨t2, a1, b1⟩ := k p l e s m below meth c D b cA C T'.heap (locs ++ L2) la (by rw [e1]; exact hP1) k3 hL T' rfl X'
  exact ⟨t2, stp t2 a1, b1⟩
/-- the script -/
theorem lj_ix {n0 t L : Nat} {v : Int32} (hL : L ≤ 2048) (h : n0 + t < L) (hv : v = Int32.ofNat t) : (Int32.ofNat n0 + v).toNatClampNeg = n0 + t ∧ vp_in (Int32.ofNat n0 + v) L := by
  subst hv
  have e : Int32.ofNat n0 + Int32.ofNat t = Int32.ofNat (n0 + t) := (Int32.ofNat_add n0 t).symm
  have h1 : (Int32.ofNat (n0 + t)).toNatClampNeg = n0 + t := Int32.toNatClampNeg_ofNat_of_lt (by omega)
  rw [e]
  have h2 : (Int32.ofNat (n0 + t)).toInt = (n0 + t : Nat) := Int32.toInt_ofNat_of_lt (by omega)
  refine ⟨h1, fun h3 => ?_⟩
  rcases h3 with h3 | h3
  · rw [Int32.lt_iff_toInt_lt, h2] at h3
    have : (0 : Int32).toInt = 0 := rfl
    omega
  · omega
theorem lj_sld {L : Nat} {xs : Nat → Int32} {pc q n0 t nc ns : Nat} {v : Int32} {ls : List (Option Value)} {st : List Value} {M : sm_M} (hd : decode code pc = .ok (.iaload, 1)) (hq : pc + 1 = q) (hL9 : L ≤ 2048) (h : n0 + t < L) (hv : v = Int32.ofNat t)
    (k : lj_J L xs q ls (.int (xs (n0 + t)) :: st) M nc ns) : lj_J L xs pc ls (.int (Int32.ofNat n0 + v) :: .ref 103 :: st) M nc ns := by
  subst hq
  intro p l e s m below meth c D b cA C H locs la hP hS hL
  obtain ⟨hst, hx, hb, hr, hml, hown, hts, hlk, hX, hbB, hK⟩ := id C
  obtain ⟨h1, h2⟩ := lj_ix hL9 h hv
  have kk := k p l e s m below meth c D b cA C H locs la hP hS hL
  rw [← h1] at kk
  exact va_sld hx hb hX hbB (A := fun q => s.heap.size ≤ q) (by show ¬ s.heap.size ≤ b; omega) hS h2 hd kk
theorem lj_sld0 {L : Nat} {xs : Nat → Int32} {pc q n0 nc ns : Nat} {ls : List (Option Value)} {st : List Value} {M : sm_M} (hd : decode code pc = .ok (.iaload, 1)) (hq : pc + 1 = q) (hL9 : L ≤ 2048) (h : n0 < L)
    (k : lj_J L xs q ls (.int (xs n0) :: st) M nc ns) : lj_J L xs pc ls (.int (Int32.ofNat n0) :: .ref 103 :: st) M nc ns := by
  have h9 := lj_sld (ls := ls) (st := st) (M := M) (nc := nc) (ns := ns) (xs := xs) (n0 := n0) (t := 0) (v := 0) hd hq hL9 h rfl k
  rwa [Int32.add_zero] at h9
theorem lj_slen {L : Nat} {xs : Nat → Int32} {pc q nc ns : Nat} {ls : List (Option Value)} {st : List Value} {M : sm_M} (hd : decode code pc = .ok (.arraylength, 1)) (hq : pc + 1 = q)
    (k : lj_J L xs q ls (.int (Int32.ofNat L) :: st) M nc ns) : lj_J L xs pc ls (.ref 103 :: st) M nc ns := by
  subst hq
  intro p l e s m below meth c D b cA C H locs la hP hS hL
  obtain ⟨hst, hx, hb, hr, hml, hown, hts, hlk, hX, hbB, hK⟩ := id C
  exact va_slen hx hb hX hbB (A := fun q => s.heap.size ≤ q) (by show ¬ s.heap.size ≤ b; omega) hS hd (k p l e s m below meth c D b cA C H locs la hP hS hL)
theorem lj_fg {L : Nat} {xs : Nat → Int32} {pc nc ns : Nat} {ls : List (Option Value)} {st : List Value} {M : sm_M} (is : List Nat) {lt : List (Option Value)} (h : sm_clr is ls = lt) (k : lj_J L xs pc lt st M nc ns) : lj_J L xs pc ls st M nc ns := by
  subst h
  intro p l e s m below meth c D b cA C H locs la hP hS hL
  exact k p l e s m below meth c D b cA C H locs la hP hS (sm_clrn is hL)
theorem lj_wide {L : Nat} {xs : Nat → Int32} {pc nc ns nc' ns' : Nat} {ls : List (Option Value)} {st : List Value} {M : sm_M} (h1 : nc ≤ nc') (h2 : ns ≤ ns') (k : lj_J L xs pc ls st M nc' ns') : lj_J L xs pc ls st M nc ns := by
  intro p l e s m below meth c D b cA C H locs la hP hS hL
  exact W.widen h1 h2 (k p l e s m below meth c D b cA C H locs la hP hS hL)
theorem lj_ret {L : Nat} {xs : Nat → Int32} {pc nc ns : Nat} {ls : List (Option Value)} {M : sm_M} (hd : decode code pc = .ok (.ireturn, 1)) (h1 : nc ≤ 603072) (h2 : ns ≤ 7166058) : lj_J L xs pc ls [.int 1] M nc ns := by
  intro p l e s m below meth c D b cA C H locs la hP hS hL
  obtain ⟨hst, hx, hb, hr, hml, hown, hts, hlk, hX, hbB, hK⟩ := id C
  refine va_forget (fun q hq => hS.2.2 q hq) ?_
  refine W.widen h1 h2 ?_
  exact lw_ret hx hb hr hlk hd
def lj_tg : List Nat := [220, 300, 313, 381, 437, 505, 561, 574, 587, 631, 689, 702, 715, 771, 827, 883, 939, 952, 965, 978, 991, 1046, 1059, 1103, 1116, 1129, 1185, 1229, 1242, 1255, 1323, 1336, 1392, 1436, 1520, 1576, 1644, 1700, 1743, 1799, 1843, 1856]
theorem lj_table {L : Nat} {xs : Nat → Int32} {nc ns j : Nat} {ls : List (Option Value)} {st : List Value} {M : sm_M} {x : Int32} {tgt : Nat} (hj : x.toInt = (j : Int)) (ht : lj_tg[j]? = some tgt)
    (k : lj_J L xs tgt ls st M nc ns) : lj_J L xs 39 ls (.int x :: st) M nc ns := by
  have hl : j < 42 := (List.getElem?_eq_some_iff.mp ht).1
  intro p l e s m below meth c D b cA C H locs la hP hS hL
  obtain ⟨hst, hx, hb, hr, hml, hown, hts, hlk, hX, hbB, hK⟩ := id C
  have ho : (#[181, 261, 274, 342, 398, 466, 522, 535, 548, 592, 650, 663, 676, 732, 788, 844, 900, 913, 926, 939, 952, 1007, 1020, 1064, 1077, 1090, 1146, 1190, 1203, 1216, 1284, 1297, 1353, 1397, 1481, 1537, 1605, 1661, 1704, 1760, 1804, 1817] : Array Int)[(x.toInt - 0).toNat]? = some ((tgt : Int) - 39) := by
    rw [hj, Int.sub_zero, Int.toNat_natCast]
    have h9 : ∀ i : Fin 42, ∀ t, lj_tg[(i : Nat)]? = some t → (#[181, 261, 274, 342, 398, 466, 522, 535, 548, 592, 650, 663, 676, 732, 788, 844, 900, 913, 926, 939, 952, 1007, 1020, 1064, 1077, 1090, 1146, 1190, 1203, 1216, 1284, 1297, 1353, 1397, 1481, 1537, 1605, 1661, 1704, 1760, 1804, 1817] : Array Int)[(i : Nat)]? = some ((t : Int) - 39) := by decide +kernel
    exact h9 ⟨j, hl⟩ tgt ht
  exact lv_tableIn hx hb dl_39 (by omega) (by omega) ho (by omega) (k p l e s m below meth c D b cA C H locs la hP hS hL)
theorem lj_tableO {L : Nat} {xs : Nat → Int32} {nc ns j : Nat} {ls : List (Option Value)} {st : List Value} {M : sm_M} {x : Int32} (hj : x.toInt = (j : Int)) (ht : 41 < j)
    (k : lj_J L xs 1900 ls st M nc ns) : lj_J L xs 39 ls (.int x :: st) M nc ns := by
  intro p l e s m below meth c D b cA C H locs la hP hS hL
  obtain ⟨hst, hx, hb, hr, hml, hown, hts, hlk, hX, hbB, hK⟩ := id C
  exact lv_tableOut hx hb dl_39 (by omega) (by omega) (k p l e s m below meth c D b cA C H locs la hP hS hL)
