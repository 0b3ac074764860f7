/-! ===== the law's helpers: methods with handlers (sm_H) ===== -/
def sm_HCx (g : sm_G) (hh : List (Nat × Nat × Nat × Nat)) (p : Program) (l : Launch) (s : State) (m : MethodId) (args : Array Value) (meth : Method) (c : Code) (D : va_G) (ad : Nat → Nat) (cA : Nat → ClassId) : Prop :=
  l.stackTraces = false ∧ p.tables.exec = Jvm.exec ∧ c.code = sm_cc g ∧ meth.sig.returnType = sm_rt g ∧ c.maxLocals = sm_nL g ∧ s.vm.findClass (sm_own g) = some m.cls ∧ (∀ w ∈ sm_TB, w.before args s = true) ∧ meth.locks = false ∧ c.exceptionTable.toList = tableOf hh ∧ sm_K D ad cA (sm_sk g).length s
def sm_H (g : sm_G) (hh : List (Nat × Nat × Nat × Nat)) (pc : Nat) (ls : List (Option Value)) (st : List Value) (M : sm_M) : Prop :=
  ∀ (p : Program) (l : Launch) (e : Env) (s : State) (m : MethodId) (args : Array Value) (below : List Frame) (meth : Method) (c : Code) (D : va_G) (ad : Nat → Nat) (cA : Nat → ClassId),
    sm_HCx g hh p l s m args meth c D ad cA → ∀ (H : Heap) (locs : List Loc) (la : Array Slot), va_P D sm_cl (sm_ws ad cA (sm_sk g) M) H → va_S (sm_A ad (sm_sk g).length s.heap.size) s.heap H locs → lv_has la (sm_nL g) (sm_lv ad ls) →
    W p l e (sm_rm (sm_d g) 1) s m args below meth c H locs 0 0 (MQ below (sm_Qc D ad cA (sm_sk g) s.heap.size (sm_o g) (sm_mf g)) args s 1 6 (sm_A ad (sm_sk g).length s.heap.size)) (F0 m pc la (st.map (sm_cv ad)))
def sm_CtH (y : MethodName) (md : sm_Md) (hh : List (Nat × Nat × Nat × Nat)) (d : Nat) (sk : List sm_Sh) (av : List Value) (M : sm_M) (kk : Int32) (M' : sm_M) : Prop :=
  ∀ (l : Launch) (D : va_G) (ad : Nat → Nat) (cA : Nat → ClassId) (sz : Nat), l.stackTraces = false →
    Met l y (Cond.codeWith y md.2.1 md.2.2.1 md.2.2.2 hh :: sm_TB) (sm_rm d 1) (sm_Pc D ad cA sk sz av M) (sm_Qc D ad cA sk sz (.inl (some (.int kk))) M') 1 6 (sm_A ad sk.length sz)
theorem sm_Hiconst {g : sm_G} {hh : List (Nat × Nat × Nat × Nat)} {pc q : Nat} {ls : List (Option Value)} {st : List Value} {M : sm_M} {n : Int} {v : Int32} (hd : decode (sm_cc g) pc = .ok (.iconst n, 1)) (hq : pc + 1 = q) (hv : Int32.ofInt n = v)
    (k : sm_H g hh q ls (.int v :: st) M) : sm_H g hh pc ls st M := by
  subst hq
  intro p l e s m args below meth c D ad cA C H locs la hP hS hL
  obtain ⟨hst, hx, hb, hr, hml, hown, hts, hlk, hex, hK⟩ := id C
  exact lv_iconst hx hb hd hv (k p l e s m args below meth c D ad cA C H locs la hP hS hL)
theorem sm_Hiload_n {g : sm_G} {hh : List (Nat × Nat × Nat × Nat)} {pc q : Nat} {ls : List (Option Value)} {st : List Value} {M : sm_M} {n : Fin 4} {x : Int32} (hd : decode (sm_cc g) pc = .ok (.iload_n n, 1)) (hq : pc + 1 = q) (hv : ls[(n : Nat)]? = some (some (.int x)))
    (k : sm_H g hh q ls (.int x :: st) M) : sm_H g hh pc ls st M := by
  subst hq
  intro p l e s m args below meth c D ad cA C H locs la hP hS hL
  obtain ⟨hst, hx, hb, hr, hml, hown, hts, hlk, hex, hK⟩ := id C
  exact lv_iload_n hx hb hd rfl (sm_lvat hL hv) (k p l e s m args below meth c D ad cA C H locs la hP hS hL)
theorem sm_Hiload {g : sm_G} {hh : List (Nat × Nat × Nat × Nat)} {pc q : Nat} {ls : List (Option Value)} {st : List Value} {M : sm_M} {i : Nat} {x : Int32} (hd : decode (sm_cc g) pc = .ok (.iload i, 2)) (hq : pc + 2 = q) (hv : ls[i]? = some (some (.int x)))
    (k : sm_H g hh q ls (.int x :: st) M) : sm_H g hh pc ls st M := by
  subst hq
  intro p l e s m args below meth c D ad cA C H locs la hP hS hL
  obtain ⟨hst, hx, hb, hr, hml, hown, hts, hlk, hex, hK⟩ := id C
  exact lv_iload hx hb hd (sm_lvat hL hv) (k p l e s m args below meth c D ad cA C H locs la hP hS hL)
theorem sm_Haload_n {g : sm_G} {hh : List (Nat × Nat × Nat × Nat)} {pc q : Nat} {ls : List (Option Value)} {st : List Value} {M : sm_M} {n : Fin 4} {x : Nat} (hd : decode (sm_cc g) pc = .ok (.aload_n n, 1)) (hq : pc + 1 = q) (hv : ls[(n : Nat)]? = some (some (.ref x)))
    (k : sm_H g hh q ls (.ref x :: st) M) : sm_H g hh pc ls st M := by
  subst hq
  intro p l e s m args below meth c D ad cA C H locs la hP hS hL
  obtain ⟨hst, hx, hb, hr, hml, hown, hts, hlk, hex, hK⟩ := id C
  exact lv_aload_n hx hb hd rfl (sm_lvat hL hv) (k p l e s m args below meth c D ad cA C H locs la hP hS hL)
theorem sm_Haload {g : sm_G} {hh : List (Nat × Nat × Nat × Nat)} {pc q : Nat} {ls : List (Option Value)} {st : List Value} {M : sm_M} {i : Nat} {x : Nat} (hd : decode (sm_cc g) pc = .ok (.aload i, 2)) (hq : pc + 2 = q) (hv : ls[i]? = some (some (.ref x)))
    (k : sm_H g hh q ls (.ref x :: st) M) : sm_H g hh pc ls st M := by
  subst hq
  intro p l e s m args below meth c D ad cA C H locs la hP hS hL
  obtain ⟨hst, hx, hb, hr, hml, hown, hts, hlk, hex, hK⟩ := id C
  exact lv_aload hx hb hd (sm_lvat hL hv) (k p l e s m args below meth c D ad cA C H locs la hP hS hL)
theorem sm_Hi2l {g : sm_G} {hh : List (Nat × Nat × Nat × Nat)} {pc q : Nat} {ls : List (Option Value)} {st : List Value} {M : sm_M} {x : Int32} (hd : decode (sm_cc g) pc = .ok (.i2l, 1)) (hq : pc + 1 = q)
    (k : sm_H g hh q ls (.long x.toInt64 :: st) M) : sm_H g hh pc ls (.int x :: st) M := by
  subst hq
  intro p l e s m args below meth c D ad cA C H locs la hP hS hL
  obtain ⟨hst, hx, hb, hr, hml, hown, hts, hlk, hex, hK⟩ := id C
  exact lv_i2l hx hb hd rfl (k p l e s m args below meth c D ad cA C H locs la hP hS hL)
theorem sm_Hlastore {g : sm_G} {hh : List (Nat × Nat × Nat × Nat)} {pc q : Nat} {ls : List (Option Value)} {st : List Value} {M : sm_M} {a n : Nat} {i : Int32} {x : Int64} {rs : List Nat} (hd : decode (sm_cc g) pc = .ok (.lastore, 1)) (hq : pc + 1 = q) (ha : (sm_sk g)[a]? = some (.inl (3, n, rs))) (hi : vp_in i n)
    (k : sm_H g hh q ls st (sm_ml M a i.toNatClampNeg x)) : sm_H g hh pc ls (.long x :: .int i :: .ref a :: st) M := by
  subst hq
  intro p l e s m args below meth c D ad cA C H locs la hP hS hL
  obtain ⟨hst, hx, hb, hr, hml, hown, hts, hlk, hex, hK⟩ := id C
  refine va_last hx hb hK.1 hP (sm_D hK.2.1) hS a 3 (sm_at ha) rfl hi hd (fun H1 locs1 hP1 _ hS1 => ?_)
  have hP2 : va_P D sm_cl (sm_ws ad cA (sm_sk g) (sm_ml M a i.toNatClampNeg x)) H1 := by
    rw [← sm_putl ha]
    exact hP1
  exact k p l e s m args below meth c D ad cA C H1 locs1 la hP2 hS1 hL
theorem sm_Hgoto {g : sm_G} {hh : List (Nat × Nat × Nat × Nat)} {pc q : Nat} {ls : List (Option Value)} {st : List Value} {M : sm_M} {off : Int} {t : Nat} (hd : decode (sm_cc g) pc = .ok (.goto off, 3)) (hq : pc + 0 = q) (ht : (pc : Int) + off = (t : Int))
    (k : sm_H g hh t ls st M) : sm_H g hh pc ls st M := by
  subst hq
  intro p l e s m args below meth c D ad cA C H locs la hP hS hL
  obtain ⟨hst, hx, hb, hr, hml, hown, hts, hlk, hex, hK⟩ := id C
  exact lv_goto hx hb hd ht (k p l e s m args below meth c D ad cA C H locs la hP hS hL)
theorem sm_Hiret {g : sm_G} {hh : List (Nat × Nat × Nat × Nat)} {pc : Nat} {ls : List (Option Value)} {M : sm_M} {v : Int32} (hd : decode (sm_cc g) pc = .ok (.ireturn, 1)) (ht : sm_rt g = some .int) (ho : sm_o g = .inl (some (.int v))) (hM : sm_mf g = M) : sm_H g hh pc ls [.int v] M := by
  intro p l e s m args below meth c D ad cA C H locs la hP hS hL
  obtain ⟨hst, hx, hb, hr, hml, hown, hts, hlk, hex, hK⟩ := id C
  refine W.widen (k := 1) (n := 6) (by omega) (by omega) ?_
  exact W.iret hx hb (hr.trans ht) (fun t ht' hW => ⟨⟨_, ho, rfl, by rw [ht', hM]; exact hP⟩, hS.F ht'⟩) hS.2.2 hd
theorem sm_runH {g : sm_G} {hh : List (Nat × Nat × Nat × Nat)} {pc i a ci d' : Nat} {stk st : List Value} {M M1 : sm_M} {y : MethodName} {md : sm_Md} {av : List Value} {o : sm_O} {fs : List (Option Nat)} {q : vw_C} {p : Program} {l : Launch} {e : Env} {s : State} {m : MethodId} {args : Array Value} {below : List Frame} {meth : Method} {c : Code} {D : va_G} {ad : Nat → Nat} {cA : Nat → ClassId} {H : Heap} {locs : List Loc} {la : Array Slot}
    (C : sm_HCx g hh p l s m args meth c D ad cA) (hP : va_P D sm_cl (sm_ws ad cA (sm_sk g) M) H) (hS : va_S (sm_A ad (sm_sk g).length s.heap.size) s.heap H locs) (hn : la.size = sm_nL g) (hd : decode (sm_cc g) pc = .ok (.invokevirtual i, 3)) (L : sm_LV (sm_own g) i y md av.length) (ha : (sm_sk g)[a]? = some (.inr (ci, fs))) (hc : sm_cl[ci]? = some q) (hy : q.1 = y.cls) (hs : stk = av.reverse ++ .ref a :: st) (hw : (st.map fun v => v.category).sum ≤ 8) (hdd : d' < sm_d g)
    (h : sm_Ct y md d' (sm_sk g) (.ref a :: av) M o M1) :
    vx_Run p l e (sm_rm (sm_d g) 1) s m args below meth c H locs 0 0 (sm_k o) (6 * sm_k o) (F0 m pc la (stk.map (sm_cv ad))) (st.map (sm_cv ad)) (sm_Qc D ad cA (sm_sk g) H.size o M1 ((Value.ref a :: av).map (sm_cv ad)).toArray) (sm_XC D ad cA (sm_sk g) H.size o M1) (sm_A ad (sm_sk g).length H.size) := by
  obtain ⟨hst, hx, hb, hr, hml, hown, hts, hlk, hex, hK⟩ := C
  obtain ⟨w1, w2, w3, w4, w5, hmx, hnm⟩ := L
  obtain ⟨cell, r1, r2, r3⟩ := va_recv hK.1 hP hc (sm_at ha)
  have hk1 : sm_k o ≤ 1 := by cases o <;> simp [sm_k]
  refine vx_runV (As := av.map (sm_cv ad)) (rest := st.map (sm_cv ad)) (b := ad a) (Ts := sm_TB) (C := y.cls) (bytes := md.2.1) (maxL := md.2.2.1) (ret := md.2.2.2) (n := av.length) ⟨hx, hb, hml, hown, hts⟩ (h l D ad cA H.size hst) ⟨callB_of av.length hts (sm_good w5 rfl (fun _ h => h)) rfl rfl rfl (hts _ w4) (hts _ w1) hnm ⟨?_, ?_⟩, hts _ w2, hts _ w3⟩ ⟨sm_blind, ⟨cell, r1, r2, by rw [← hy]; exact r3⟩, fun U hU hW => ⟨rfl, by rw [hU], by rw [hU]; exact hP, hK.go hS hU hW⟩⟩ rfl (List.length_map _) hn ?_ (lv_room ?_) hd ⟨?_, ?_⟩
  · show d' + 1 ≤ sm_d g
    omega
  · show 8 + (md.2.2.1 + 11) + 64 * d' ≤ 64 * sm_d g
    omega
  · show stk.map (sm_cv ad) = _
    rw [hs]
    simp [sm_cv]
  · rw [List.map_map]
    simpa [Function.comp_def, sm_cat] using hw
  · show 0 + sm_k o ≤ 1
    omega
  · show 0 + 6 * sm_k o ≤ 6 * 1
    omega
theorem sm_HcallV {g : sm_G} {hh : List (Nat × Nat × Nat × Nat)} {pc q i a ci d' : Nat} {ls : List (Option Value)} {stk : List Value} (st : List Value) {M M1 : sm_M} {y : MethodName} {md : sm_Md} (av : List Value) {v : Option Value} {fs : List (Option Nat)} {r : vw_C}
    (hd : decode (sm_cc g) pc = .ok (.invokevirtual i, 3)) (hq : pc + 3 = q) (L : sm_LV (sm_own g) i y md av.length) (ha : (sm_sk g)[a]? = some (.inr (ci, fs))) (hc : sm_cl[ci]? = some r) (hy : r.1 = y.cls) (hs : stk = av.reverse ++ .ref a :: st) (hw : (st.map fun v => v.category).sum ≤ 8) (hdd : d' < sm_d g)
    (h : sm_Ct y md d' (sm_sk g) (.ref a :: av) M (.inl v) M1) {st9 : List Value} (hs9 : v.toList ++ st = st9) (k : sm_H g hh q ls st9 M1) : sm_H g hh pc ls stk M := by
  subst hq
  subst hs9
  intro p l e s m args below meth c D ad cA C H locs la hP hS hL
  have hr := sm_runH (e := e) (below := below) C hP hS hL.1 hd L ha hc hy hs hw hdd h
  intro T hT X
  rcases hr T hT X with ⟨v', st₀, t, T', L, h0, X', hLl, e1, e2, ⟨⟨v2, hv1, hv2, hP1⟩, hF⟩, stp⟩ | ⟨q, st₀, t, T', L, E, ce, h0, X', hLl, e1, e2, ⟨hbad, -⟩, -⟩
  · cases hv1
    cases hv2
    obtain ⟨k1, k2, k3⟩ := vx_keep h0 e1 hS (fun q _ h => sm_A_up hS q h) (fun q h => sm_A_up hS q h) hLl hF
    obtain ⟨t2, a1, b1⟩ := k p l e s m args below meth c D ad cA C T'.heap (locs ++ L) la (by rw [e1]; exact hP1) k3 hL T' rfl X'
    refine ⟨t2, stp t2 ?_, b1⟩
    have he : (v.toList ++ st).map (sm_cv ad) = (v.map (sm_cv ad)).toList ++ st.map (sm_cv ad) := by cases v <;> simp
    rw [he] at a1
    exact a1
  · cases hbad
/-- a call that throws, caught by a row of the table whose handler answers a number -/
theorem sm_Hcatch {g : sm_G} {hh : List (Nat × Nat × Nat × Nat)} {pc i a ci d' : Nat} {ls : List (Option Value)} {stk : List Value} (st : List Value) {M M1 : sm_M} {y : MethodName} {md : sm_Md} (av : List Value) {E : String} {fs : List (Option Nat)} {r : vw_C}
    (hd : decode (sm_cc g) pc = .ok (.invokevirtual i, 3)) (L : sm_LV (sm_own g) i y md av.length) (ha : (sm_sk g)[a]? = some (.inr (ci, fs))) (hc : sm_cl[ci]? = some r) (hy : r.1 = y.cls) (hs : stk = av.reverse ++ .ref a :: st) (hw : (st.map fun v => v.category).sum ≤ 8) (hdd : d' < sm_d g)
    (h : sm_Ct y md d' (sm_sk g) (.ref a :: av) M (.inr E) M1) (pre : List ExceptionTableEntry) (x : ExceptionTableEntry) (suf : List ExceptionTableEntry) (hsp : tableOf hh = pre ++ x :: suf)
    (hpass : ∀ z ∈ pre, z.catchType ≠ 0 ∧ ∃ nm : String, Cond.classLink (sm_own g) z.catchType nm ∈ sm_TB ∧ (E, nm) ∈ sm_ncs) (hcov : covers x pc = true) (h0 : x.catchType ≠ 0) (hlink : Cond.classLink (sm_own g) x.catchType E ∈ sm_TB) (hE : E ∈ sm_casts)
    {n : Nat} {ins : Instr} {len : Nat} {v : Int32} {z : Int} (hst : (∃ f : Fin 4, (f : Nat) = n ∧ ins = .astore_n f ∧ len = 1) ∨ (ins = .astore n ∧ len = 2)) (hn : n < sm_nL g) (d1 : decode (sm_cc g) x.handlerPc = .ok (ins, len)) (d2 : decode (sm_cc g) (x.handlerPc + len) = .ok (.iconst z, 1)) (hz : Int32.ofInt z = v) (d3 : decode (sm_cc g) (x.handlerPc + len + 1) = .ok (.ireturn, 1)) (ht : sm_rt g = some .int)
    (ho : sm_o g = .inl (some (.int v))) (hM : sm_mf g = M1) : sm_H g hh pc ls stk M := by
  intro p l e s m args below meth c D ad cA C H locs la hP hS hL
  have hr := sm_runH (e := e) (below := below) C hP hS hL.1 hd L ha hc hy hs hw hdd h
  obtain ⟨hst9, hx, hb, hr9, hml, hown, hts, hlk, hex, hK⟩ := id C
  intro T hT X
  rcases hr T hT X with ⟨v', st₀, t, T', L, h0, X', hLl, e1, e2, ⟨⟨v2, hv1, -⟩, -⟩, -⟩ | ⟨q, st₀, t, T', L, E', ce, h0, X', hLl, e1, e2, ⟨hE', hP1, hF⟩, hce, hcv, hcl, stp⟩
  · cases hv1
  · cases hE'
    obtain ⟨k1, k2, k3⟩ := vx_keep h0 e1 hS (fun q _ h => sm_A_up hS q h) (fun q h => sm_A_up hS q h) hLl hF
    have key : vx_W p l e (sm_rm (sm_d g) 1) s m args below meth c T'.heap (locs ++ L) 1 6 (MQ below (sm_Qc D ad cA (sm_sk g) s.heap.size (sm_o g) (sm_mf g)) args s 1 6 (sm_A ad (sm_sk g).length s.heap.size)) (F0 m pc la (st.map (sm_cv ad))) q := by
      refine vx_catch hown pre x suf (hex.trans hsp) (fun z hz => Or.inr ?_) hcov ‹_› (hts _ hlink) (va_Nw.use rfl (hK.2.2.2.2.2.1 E hE)) (by rw [e1]; exact hce) hcv hcl ?_
      · obtain ⟨g1, nm, g2, g3⟩ := hpass z hz
        exact ⟨g1, nm, hts _ g2, hK.2.2.2.2.2.2.2 _ g3⟩
      · have fin : ∀ la' : Array Slot, W p l e (sm_rm (sm_d g) 1) s m args below meth c T'.heap (locs ++ L) 1 6 (MQ below (sm_Qc D ad cA (sm_sk g) s.heap.size (sm_o g) (sm_mf g)) args s 1 6 (sm_A ad (sm_sk g).length s.heap.size)) (F0 m (x.handlerPc + len) la' []) := by
          intro la'
          refine lv_iconst hx hb d2 hz ?_
          exact W.iret hx hb (hr9.trans ht) (fun t' ht' hW => ⟨⟨_, ho, rfl, by rw [ht', e1, hM]; exact hP1⟩, k3.F ht'⟩) k3.2.2 d3
        rcases hst with ⟨f, hf1, hf2, hf3⟩ | ⟨hf2, hf3⟩
        · subst hf2
          subst hf3
          exact lv_astore_n hx hb d1 hf1 hL hn rfl (fun la' _ => fin la')
        · subst hf2
          subst hf3
          exact lv_astore hx hb d1 hL hn rfl (fun la' _ => fin la')
    obtain ⟨t2, a1, b1⟩ := key T' rfl X'
    exact ⟨t2, stp.trans a1, b1⟩
theorem sm_Henter {y : MethodName} {md : sm_Md} {hh : List (Nat × Nat × Nat × Nat)} {d : Nat} {sk : List sm_Sh} {av : List Value} {M M' : sm_M} {kk : Int32} (n : Nat) {ls0 : List (Option Value)} (hy : plainName y.cls = true) (hown : md.1 = y.cls) (hl : (sm_ls av).length ≤ md.2.2.1) (hls : sm_ls av ++ List.replicate n none = ls0) (h : sm_H (md, d, sk, .inl (some (.int kk)), M') hh 0 ls0 [] M) : sm_CtH y md hh d sk av M kk M' := by
  intro l D ad cA sz hst
  refine va_MetW (cc := md.2.1) (maxL := md.2.2.1) (ret := md.2.2.2) (hh := hh) hy rfl ?_
  intro p e s m args below meth c s₁ B hml hv
  obtain ⟨rfl, hsz, hP, hK⟩ := hv
  subst hsz
  have hts := atoms_spec (ws := Cond.codeWith y md.2.1 md.2.2.1 md.2.2.2 hh :: sm_TB) B.pre
  have hex : c.exceptionTable.toList = tableOf hh := vx_table (x := y) B (hts _ List.mem_cons_self)
  have hown' : s.vm.findClass y.cls = some m.cls := findClass_of_methodNamed B.named
  have he := lv_entry (av.map (sm_cv ad)) (n := md.2.2.1) (by rw [sm_lsl]; exact hl)
  rw [lg_entry_eq]
  refine h p l e s m _ below meth c D ad cA ⟨hst, B.exec, B.bytes, B.returns, hml, by show s.vm.findClass md.1 = _; rw [hown]; exact hown', fun w hw => hts w (List.mem_cons_of_mem _ hw), B.notSynchronized, hex, hK⟩ s.heap [] _ hP va_S.rf ⟨he.1, he.2.1, fun q hq => he.2.2 q ?_⟩
  obtain ⟨u, h1, h2⟩ := sm_lvm.mp hq
  rw [← hls] at h1
  have := sm_lsa ad n av 0 q.1 u h1
  rw [Nat.zero_add, ← h2] at this
  exact this
theorem pn_L : plainName RL = true := by decide +kernel
abbrev md_L_setFamily : sm_Md := (RL, cL_setFamily, 6, (some .int))
abbrev hh_L_setFamily : List (Nat × Nat × Nat × Nat) := [(0, 12, 15, 13)]
theorem d_L_setFamily_0 : decode cL_setFamily 0 = .ok (.aload 4, 2) := by decide +kernel
theorem d_L_setFamily_2 : decode cL_setFamily 2 = .ok (.iconst 0, 1) := by decide +kernel
theorem d_L_setFamily_3 : decode cL_setFamily 3 = .ok (.aload_n 0, 1) := by decide +kernel
theorem d_L_setFamily_4 : decode cL_setFamily 4 = .ok (.iload_n 1, 1) := by decide +kernel
theorem d_L_setFamily_5 : decode cL_setFamily 5 = .ok (.iload_n 2, 1) := by decide +kernel
theorem d_L_setFamily_6 : decode cL_setFamily 6 = .ok (.iload_n 3, 1) := by decide +kernel
theorem d_L_setFamily_7 : decode cL_setFamily 7 = .ok (.invokevirtual 7, 3) := by decide +kernel
theorem d_L_setFamily_10 : decode cL_setFamily 10 = .ok (.i2l, 1) := by decide +kernel
theorem d_L_setFamily_11 : decode cL_setFamily 11 = .ok (.lastore, 1) := by decide +kernel
theorem d_L_setFamily_12 : decode cL_setFamily 12 = .ok (.goto 7, 3) := by decide +kernel
theorem d_L_setFamily_15 : decode cL_setFamily 15 = .ok (.astore 5, 2) := by decide +kernel
theorem d_L_setFamily_17 : decode cL_setFamily 17 = .ok (.iconst 1, 1) := by decide +kernel
theorem d_L_setFamily_18 : decode cL_setFamily 18 = .ok (.ireturn, 1) := by decide +kernel
theorem d_L_setFamily_19 : decode cL_setFamily 19 = .ok (.iconst 0, 1) := by decide +kernel
theorem d_L_setFamily_20 : decode cL_setFamily 20 = .ok (.ireturn, 1) := by decide +kernel
theorem lk_L_7 : sm_LV RL 7 yX11_setFamily md_X11_setFamily 3 := ⟨sm_w (List.mem_of_getElem? (i := 655) (by decide +kernel)) rfl, sm_w (List.mem_of_getElem? (i := 656) (by decide +kernel)) rfl, sm_w (List.mem_of_getElem? (i := 657) (by decide +kernel)) rfl, sm_w (List.mem_of_getElem? (i := 59) (by decide +kernel)) rfl, sm_w (List.mem_of_getElem? (i := 658) (by decide +kernel)) rfl, by decide, by decide +kernel⟩
set_option maxRecDepth 100000 in
theorem hR_L_setFamily {sk : List sm_Sh} (hx : sm_ext skX sk) (h2 : sk[102]? = some (.inl (3, 1, []))) (x1 x2 x3 : Int32) {M M1 : sm_M} {v : Int32} (h : sm_Ct yX11_setFamily md_X11_setFamily 6 sk (.ref 0 :: [.int x1, .int x2, .int x3]) M (.inl (some (.int v))) M1) : sm_CtH yL_setFamily md_L_setFamily hh_L_setFamily 7 sk [.ref 0, .int x1, .int x2, .int x3, .ref 102] M 0 (sm_ml M1 102 0 v.toInt64) := by
  refine sm_Henter (ls0 := [some (.ref 0), some (.int x1), some (.int x2), some (.int x3), some (.ref 102), none]) 1 pn_L rfl (Nat.le_of_ble_eq_true rfl) rfl ?_
  refine sm_Haload (q := 2) d_L_setFamily_0 rfl rfl ?_
  refine sm_Hiconst (q := 3) d_L_setFamily_2 rfl ci_0 ?_
  refine sm_Haload_n (q := 4) d_L_setFamily_3 rfl rfl ?_
  refine sm_Hiload_n (q := 5) d_L_setFamily_4 rfl rfl ?_
  refine sm_Hiload_n (q := 6) d_L_setFamily_5 rfl rfl ?_
  refine sm_Hiload_n (q := 7) d_L_setFamily_6 rfl rfl ?_
  refine sm_HcallV (q := 10) (d' := 6) [.int 0, .ref 102] [.int x1, .int x2, .int x3] d_L_setFamily_7 rfl lk_L_7 (hx sx_0) rfl rfl rfl (Nat.le_of_ble_eq_true rfl) (Nat.le_of_ble_eq_true rfl) h (st9 := [.int v, .int 0, .ref 102]) rfl ?_
  refine sm_Hi2l (q := 11) d_L_setFamily_10 rfl ?_
  refine sm_Hlastore (q := 12) d_L_setFamily_11 rfl h2 (sm_ib_of (by decide)) ?_
  refine sm_Hgoto (t := 19) d_L_setFamily_12 rfl rfl ?_
  refine sm_Hiconst (q := 20) d_L_setFamily_19 rfl ci_0 ?_
  exact sm_Hiret d_L_setFamily_20 rfl rfl rfl
theorem cl_L_13 : Cond.classLink RL 13 "java/lang/IllegalArgumentException" ∈ sm_TB := sm_w (List.mem_of_getElem? (i := 654) (by decide +kernel)) rfl
set_option maxRecDepth 100000 in
theorem hX1_L_setFamily {sk : List sm_Sh} (hx : sm_ext skX sk) (h2 : sk[102]? = some (.inl (3, 1, []))) (x1 x2 x3 : Int32) {M M1 : sm_M} (h : sm_Ct yX11_setFamily md_X11_setFamily 6 sk (.ref 0 :: [.int x1, .int x2, .int x3]) M (.inr "java/lang/IllegalArgumentException") M1) : sm_CtH yL_setFamily md_L_setFamily hh_L_setFamily 7 sk [.ref 0, .int x1, .int x2, .int x3, .ref 102] M 1 M1 := by
  refine sm_Henter (ls0 := [some (.ref 0), some (.int x1), some (.int x2), some (.int x3), some (.ref 102), none]) 1 pn_L rfl (Nat.le_of_ble_eq_true rfl) rfl ?_
  refine sm_Haload (q := 2) d_L_setFamily_0 rfl rfl ?_
  refine sm_Hiconst (q := 3) d_L_setFamily_2 rfl ci_0 ?_
  refine sm_Haload_n (q := 4) d_L_setFamily_3 rfl rfl ?_
  refine sm_Hiload_n (q := 5) d_L_setFamily_4 rfl rfl ?_
  refine sm_Hiload_n (q := 6) d_L_setFamily_5 rfl rfl ?_
  refine sm_Hiload_n (q := 7) d_L_setFamily_6 rfl rfl ?_
  exact sm_Hcatch (d' := 6) [.int 0, .ref 102] [.int x1, .int x2, .int x3] d_L_setFamily_7 lk_L_7 (hx sx_0) rfl rfl rfl (Nat.le_of_ble_eq_true rfl) (Nat.le_of_ble_eq_true rfl) h [] ⟨0, 12, 15, 13⟩ [] rfl (fun z hz => absurd hz List.not_mem_nil) (by decide) (by decide) cl_L_13 (by decide +kernel) (Or.inr ⟨rfl, rfl⟩) (Nat.le_of_ble_eq_true rfl) d_L_setFamily_15 d_L_setFamily_17 ci_1 d_L_setFamily_18 rfl rfl rfl
abbrev md_L_elementAt : sm_Md := (RL, cL_elementAt, 5, (some .int))
abbrev hh_L_elementAt : List (Nat × Nat × Nat × Nat) := [(0, 10, 13, 19)]
theorem d_L_elementAt_0 : decode cL_elementAt 0 = .ok (.aload_n 3, 1) := by decide +kernel
theorem d_L_elementAt_1 : decode cL_elementAt 1 = .ok (.iconst 0, 1) := by decide +kernel
theorem d_L_elementAt_2 : decode cL_elementAt 2 = .ok (.aload_n 0, 1) := by decide +kernel
theorem d_L_elementAt_3 : decode cL_elementAt 3 = .ok (.iload_n 1, 1) := by decide +kernel
theorem d_L_elementAt_4 : decode cL_elementAt 4 = .ok (.iload_n 2, 1) := by decide +kernel
theorem d_L_elementAt_5 : decode cL_elementAt 5 = .ok (.invokevirtual 15, 3) := by decide +kernel
theorem d_L_elementAt_8 : decode cL_elementAt 8 = .ok (.i2l, 1) := by decide +kernel
theorem d_L_elementAt_9 : decode cL_elementAt 9 = .ok (.lastore, 1) := by decide +kernel
theorem d_L_elementAt_10 : decode cL_elementAt 10 = .ok (.goto 7, 3) := by decide +kernel
theorem d_L_elementAt_13 : decode cL_elementAt 13 = .ok (.astore 4, 2) := by decide +kernel
theorem d_L_elementAt_15 : decode cL_elementAt 15 = .ok (.iconst 1, 1) := by decide +kernel
theorem d_L_elementAt_16 : decode cL_elementAt 16 = .ok (.ireturn, 1) := by decide +kernel
theorem d_L_elementAt_17 : decode cL_elementAt 17 = .ok (.iconst 0, 1) := by decide +kernel
theorem d_L_elementAt_18 : decode cL_elementAt 18 = .ok (.ireturn, 1) := by decide +kernel
theorem lk_L_15 : sm_LV RL 15 yX11_elementAt md_X11_elementAt 2 := ⟨sm_w (List.mem_of_getElem? (i := 764) (by decide +kernel)) rfl, sm_w (List.mem_of_getElem? (i := 765) (by decide +kernel)) rfl, sm_w (List.mem_of_getElem? (i := 766) (by decide +kernel)) rfl, sm_w (List.mem_of_getElem? (i := 59) (by decide +kernel)) rfl, sm_w (List.mem_of_getElem? (i := 767) (by decide +kernel)) rfl, by decide, by decide +kernel⟩
set_option maxRecDepth 100000 in
theorem hR_L_elementAt {sk : List sm_Sh} (hx : sm_ext skX sk) (h2 : sk[102]? = some (.inl (3, 1, []))) (x1 x2 : Int32) {M M1 : sm_M} {v : Int32} (h : sm_Ct yX11_elementAt md_X11_elementAt 7 sk (.ref 0 :: [.int x1, .int x2]) M (.inl (some (.int v))) M1) : sm_CtH yL_elementAt md_L_elementAt hh_L_elementAt 8 sk [.ref 0, .int x1, .int x2, .ref 102] M 0 (sm_ml M1 102 0 v.toInt64) := by
  refine sm_Henter (ls0 := [some (.ref 0), some (.int x1), some (.int x2), some (.ref 102), none]) 1 pn_L rfl (Nat.le_of_ble_eq_true rfl) rfl ?_
  refine sm_Haload_n (q := 1) d_L_elementAt_0 rfl rfl ?_
  refine sm_Hiconst (q := 2) d_L_elementAt_1 rfl ci_0 ?_
  refine sm_Haload_n (q := 3) d_L_elementAt_2 rfl rfl ?_
  refine sm_Hiload_n (q := 4) d_L_elementAt_3 rfl rfl ?_
  refine sm_Hiload_n (q := 5) d_L_elementAt_4 rfl rfl ?_
  refine sm_HcallV (q := 8) (d' := 7) [.int 0, .ref 102] [.int x1, .int x2] d_L_elementAt_5 rfl lk_L_15 (hx sx_0) rfl rfl rfl (Nat.le_of_ble_eq_true rfl) (Nat.le_of_ble_eq_true rfl) h (st9 := [.int v, .int 0, .ref 102]) rfl ?_
  refine sm_Hi2l (q := 9) d_L_elementAt_8 rfl ?_
  refine sm_Hlastore (q := 10) d_L_elementAt_9 rfl h2 (sm_ib_of (by decide)) ?_
  refine sm_Hgoto (t := 17) d_L_elementAt_10 rfl rfl ?_
  refine sm_Hiconst (q := 18) d_L_elementAt_17 rfl ci_0 ?_
  exact sm_Hiret d_L_elementAt_18 rfl rfl rfl
theorem cl_L_19 : Cond.classLink RL 19 "java/lang/IndexOutOfBoundsException" ∈ sm_TB := sm_w (List.mem_of_getElem? (i := 740) (by decide +kernel)) rfl
set_option maxRecDepth 100000 in
theorem hX1_L_elementAt {sk : List sm_Sh} (hx : sm_ext skX sk) (h2 : sk[102]? = some (.inl (3, 1, []))) (x1 x2 : Int32) {M M1 : sm_M} (h : sm_Ct yX11_elementAt md_X11_elementAt 7 sk (.ref 0 :: [.int x1, .int x2]) M (.inr "java/lang/IndexOutOfBoundsException") M1) : sm_CtH yL_elementAt md_L_elementAt hh_L_elementAt 8 sk [.ref 0, .int x1, .int x2, .ref 102] M 1 M1 := by
  refine sm_Henter (ls0 := [some (.ref 0), some (.int x1), some (.int x2), some (.ref 102), none]) 1 pn_L rfl (Nat.le_of_ble_eq_true rfl) rfl ?_
  refine sm_Haload_n (q := 1) d_L_elementAt_0 rfl rfl ?_
  refine sm_Hiconst (q := 2) d_L_elementAt_1 rfl ci_0 ?_
  refine sm_Haload_n (q := 3) d_L_elementAt_2 rfl rfl ?_
  refine sm_Hiload_n (q := 4) d_L_elementAt_3 rfl rfl ?_
  refine sm_Hiload_n (q := 5) d_L_elementAt_4 rfl rfl ?_
  exact sm_Hcatch (d' := 7) [.int 0, .ref 102] [.int x1, .int x2] d_L_elementAt_5 lk_L_15 (hx sx_0) rfl rfl rfl (Nat.le_of_ble_eq_true rfl) (Nat.le_of_ble_eq_true rfl) h [] ⟨0, 10, 13, 19⟩ [] rfl (fun z hz => absurd hz List.not_mem_nil) (by decide) (by decide) cl_L_19 (by decide +kernel) (Or.inr ⟨rfl, rfl⟩) (Nat.le_of_ble_eq_true rfl) d_L_elementAt_13 d_L_elementAt_15 ci_1 d_L_elementAt_16 rfl rfl rfl
abbrev md_L_append : sm_Md := (RL, cL_append, 4, (some .int))
abbrev hh_L_append : List (Nat × Nat × Nat × Nat) := [(0, 9, 12, 13), (0, 9, 15, 25)]
theorem d_L_append_0 : decode cL_append 0 = .ok (.aload_n 2, 1) := by decide +kernel
theorem d_L_append_1 : decode cL_append 1 = .ok (.iconst 0, 1) := by decide +kernel
theorem d_L_append_2 : decode cL_append 2 = .ok (.aload_n 0, 1) := by decide +kernel
theorem d_L_append_3 : decode cL_append 3 = .ok (.iload_n 1, 1) := by decide +kernel
theorem d_L_append_4 : decode cL_append 4 = .ok (.invokevirtual 21, 3) := by decide +kernel
theorem d_L_append_7 : decode cL_append 7 = .ok (.i2l, 1) := by decide +kernel
theorem d_L_append_8 : decode cL_append 8 = .ok (.lastore, 1) := by decide +kernel
theorem d_L_append_9 : decode cL_append 9 = .ok (.goto 9, 3) := by decide +kernel
theorem d_L_append_12 : decode cL_append 12 = .ok (.astore_n 3, 1) := by decide +kernel
theorem d_L_append_13 : decode cL_append 13 = .ok (.iconst 1, 1) := by decide +kernel
theorem d_L_append_14 : decode cL_append 14 = .ok (.ireturn, 1) := by decide +kernel
theorem d_L_append_15 : decode cL_append 15 = .ok (.astore_n 3, 1) := by decide +kernel
theorem d_L_append_16 : decode cL_append 16 = .ok (.iconst 2, 1) := by decide +kernel
theorem d_L_append_17 : decode cL_append 17 = .ok (.ireturn, 1) := by decide +kernel
theorem d_L_append_18 : decode cL_append 18 = .ok (.iconst 0, 1) := by decide +kernel
theorem d_L_append_19 : decode cL_append 19 = .ok (.ireturn, 1) := by decide +kernel
theorem lk_L_21 : sm_LV RL 21 yX11_append md_X11_append 1 := ⟨sm_w (List.mem_of_getElem? (i := 791) (by decide +kernel)) rfl, sm_w (List.mem_of_getElem? (i := 792) (by decide +kernel)) rfl, sm_w (List.mem_of_getElem? (i := 793) (by decide +kernel)) rfl, sm_w (List.mem_of_getElem? (i := 59) (by decide +kernel)) rfl, sm_w (List.mem_of_getElem? (i := 794) (by decide +kernel)) rfl, by decide, by decide +kernel⟩
set_option maxRecDepth 100000 in
theorem hR_L_append {sk : List sm_Sh} (hx : sm_ext skX sk) (h2 : sk[102]? = some (.inl (3, 1, []))) (x1 : Int32) {M M1 : sm_M} {v : Int32} (h : sm_Ct yX11_append md_X11_append 7 sk (.ref 0 :: [.int x1]) M (.inl (some (.int v))) M1) : sm_CtH yL_append md_L_append hh_L_append 8 sk [.ref 0, .int x1, .ref 102] M 0 (sm_ml M1 102 0 v.toInt64) := by
  refine sm_Henter (ls0 := [some (.ref 0), some (.int x1), some (.ref 102), none]) 1 pn_L rfl (Nat.le_of_ble_eq_true rfl) rfl ?_
  refine sm_Haload_n (q := 1) d_L_append_0 rfl rfl ?_
  refine sm_Hiconst (q := 2) d_L_append_1 rfl ci_0 ?_
  refine sm_Haload_n (q := 3) d_L_append_2 rfl rfl ?_
  refine sm_Hiload_n (q := 4) d_L_append_3 rfl rfl ?_
  refine sm_HcallV (q := 7) (d' := 7) [.int 0, .ref 102] [.int x1] d_L_append_4 rfl lk_L_21 (hx sx_0) rfl rfl rfl (Nat.le_of_ble_eq_true rfl) (Nat.le_of_ble_eq_true rfl) h (st9 := [.int v, .int 0, .ref 102]) rfl ?_
  refine sm_Hi2l (q := 8) d_L_append_7 rfl ?_
  refine sm_Hlastore (q := 9) d_L_append_8 rfl h2 (sm_ib_of (by decide)) ?_
  refine sm_Hgoto (t := 18) d_L_append_9 rfl rfl ?_
  refine sm_Hiconst (q := 19) d_L_append_18 rfl ci_0 ?_
  exact sm_Hiret d_L_append_19 rfl rfl rfl
set_option maxRecDepth 100000 in
theorem hX1_L_append {sk : List sm_Sh} (hx : sm_ext skX sk) (h2 : sk[102]? = some (.inl (3, 1, []))) (x1 : Int32) {M M1 : sm_M} (h : sm_Ct yX11_append md_X11_append 7 sk (.ref 0 :: [.int x1]) M (.inr "java/lang/IllegalArgumentException") M1) : sm_CtH yL_append md_L_append hh_L_append 8 sk [.ref 0, .int x1, .ref 102] M 1 M1 := by
  refine sm_Henter (ls0 := [some (.ref 0), some (.int x1), some (.ref 102), none]) 1 pn_L rfl (Nat.le_of_ble_eq_true rfl) rfl ?_
  refine sm_Haload_n (q := 1) d_L_append_0 rfl rfl ?_
  refine sm_Hiconst (q := 2) d_L_append_1 rfl ci_0 ?_
  refine sm_Haload_n (q := 3) d_L_append_2 rfl rfl ?_
  refine sm_Hiload_n (q := 4) d_L_append_3 rfl rfl ?_
  exact sm_Hcatch (d' := 7) [.int 0, .ref 102] [.int x1] d_L_append_4 lk_L_21 (hx sx_0) rfl rfl rfl (Nat.le_of_ble_eq_true rfl) (Nat.le_of_ble_eq_true rfl) h [] ⟨0, 9, 12, 13⟩ [⟨0, 9, 15, 25⟩] rfl (fun z hz => absurd hz List.not_mem_nil) (by decide) (by decide) cl_L_13 (by decide +kernel) (Or.inl ⟨3, rfl, rfl, rfl⟩) (Nat.le_of_ble_eq_true rfl) d_L_append_12 d_L_append_13 ci_1 d_L_append_14 rfl rfl rfl
theorem cl_L_25 : Cond.classLink RL 25 "java/lang/IllegalStateException" ∈ sm_TB := sm_w (List.mem_of_getElem? (i := 790) (by decide +kernel)) rfl
set_option maxRecDepth 100000 in
theorem hX2_L_append {sk : List sm_Sh} (hx : sm_ext skX sk) (h2 : sk[102]? = some (.inl (3, 1, []))) (x1 : Int32) {M M1 : sm_M} (h : sm_Ct yX11_append md_X11_append 7 sk (.ref 0 :: [.int x1]) M (.inr "java/lang/IllegalStateException") M1) : sm_CtH yL_append md_L_append hh_L_append 8 sk [.ref 0, .int x1, .ref 102] M 2 M1 := by
  refine sm_Henter (ls0 := [some (.ref 0), some (.int x1), some (.ref 102), none]) 1 pn_L rfl (Nat.le_of_ble_eq_true rfl) rfl ?_
  refine sm_Haload_n (q := 1) d_L_append_0 rfl rfl ?_
  refine sm_Hiconst (q := 2) d_L_append_1 rfl ci_0 ?_
  refine sm_Haload_n (q := 3) d_L_append_2 rfl rfl ?_
  refine sm_Hiload_n (q := 4) d_L_append_3 rfl rfl ?_
  exact sm_Hcatch (d' := 7) [.int 0, .ref 102] [.int x1] d_L_append_4 lk_L_21 (hx sx_0) rfl rfl rfl (Nat.le_of_ble_eq_true rfl) (Nat.le_of_ble_eq_true rfl) h [⟨0, 9, 12, 13⟩] ⟨0, 9, 15, 25⟩ [] rfl (List.forall_mem_cons.mpr ⟨⟨by decide, _, cl_L_13, by decide +kernel⟩, (fun _ h9 => absurd h9 List.not_mem_nil)⟩) (by decide) (by decide) cl_L_25 (by decide +kernel) (Or.inl ⟨3, rfl, rfl, rfl⟩) (Nat.le_of_ble_eq_true rfl) d_L_append_15 d_L_append_16 ci_2 d_L_append_17 rfl rfl rfl
abbrev md_L_setSymbol : sm_Md := (RL, cL_setSymbol, 5, (some .int))
abbrev hh_L_setSymbol : List (Nat × Nat × Nat × Nat) := [(0, 10, 13, 19), (0, 10, 17, 13)]
theorem d_L_setSymbol_0 : decode cL_setSymbol 0 = .ok (.aload_n 3, 1) := by decide +kernel
theorem d_L_setSymbol_1 : decode cL_setSymbol 1 = .ok (.iconst 0, 1) := by decide +kernel
theorem d_L_setSymbol_2 : decode cL_setSymbol 2 = .ok (.aload_n 0, 1) := by decide +kernel
theorem d_L_setSymbol_3 : decode cL_setSymbol 3 = .ok (.iload_n 1, 1) := by decide +kernel
theorem d_L_setSymbol_4 : decode cL_setSymbol 4 = .ok (.iload_n 2, 1) := by decide +kernel
theorem d_L_setSymbol_5 : decode cL_setSymbol 5 = .ok (.invokevirtual 27, 3) := by decide +kernel
theorem d_L_setSymbol_8 : decode cL_setSymbol 8 = .ok (.i2l, 1) := by decide +kernel
theorem d_L_setSymbol_9 : decode cL_setSymbol 9 = .ok (.lastore, 1) := by decide +kernel
theorem d_L_setSymbol_10 : decode cL_setSymbol 10 = .ok (.goto 11, 3) := by decide +kernel
theorem d_L_setSymbol_13 : decode cL_setSymbol 13 = .ok (.astore 4, 2) := by decide +kernel
theorem d_L_setSymbol_15 : decode cL_setSymbol 15 = .ok (.iconst 1, 1) := by decide +kernel
theorem d_L_setSymbol_16 : decode cL_setSymbol 16 = .ok (.ireturn, 1) := by decide +kernel
theorem d_L_setSymbol_17 : decode cL_setSymbol 17 = .ok (.astore 4, 2) := by decide +kernel
theorem d_L_setSymbol_19 : decode cL_setSymbol 19 = .ok (.iconst 2, 1) := by decide +kernel
theorem d_L_setSymbol_20 : decode cL_setSymbol 20 = .ok (.ireturn, 1) := by decide +kernel
theorem d_L_setSymbol_21 : decode cL_setSymbol 21 = .ok (.iconst 0, 1) := by decide +kernel
theorem d_L_setSymbol_22 : decode cL_setSymbol 22 = .ok (.ireturn, 1) := by decide +kernel
theorem lk_L_27 : sm_LV RL 27 yX11_setSymbol md_X11_setSymbol 2 := ⟨sm_w (List.mem_of_getElem? (i := 819) (by decide +kernel)) rfl, sm_w (List.mem_of_getElem? (i := 820) (by decide +kernel)) rfl, sm_w (List.mem_of_getElem? (i := 821) (by decide +kernel)) rfl, sm_w (List.mem_of_getElem? (i := 59) (by decide +kernel)) rfl, sm_w (List.mem_of_getElem? (i := 822) (by decide +kernel)) rfl, by decide, by decide +kernel⟩
set_option maxRecDepth 100000 in
theorem hR_L_setSymbol {sk : List sm_Sh} (hx : sm_ext skX sk) (h2 : sk[102]? = some (.inl (3, 1, []))) (x1 x2 : Int32) {M M1 : sm_M} {v : Int32} (h : sm_Ct yX11_setSymbol md_X11_setSymbol 7 sk (.ref 0 :: [.int x1, .int x2]) M (.inl (some (.int v))) M1) : sm_CtH yL_setSymbol md_L_setSymbol hh_L_setSymbol 8 sk [.ref 0, .int x1, .int x2, .ref 102] M 0 (sm_ml M1 102 0 v.toInt64) := by
  refine sm_Henter (ls0 := [some (.ref 0), some (.int x1), some (.int x2), some (.ref 102), none]) 1 pn_L rfl (Nat.le_of_ble_eq_true rfl) rfl ?_
  refine sm_Haload_n (q := 1) d_L_setSymbol_0 rfl rfl ?_
  refine sm_Hiconst (q := 2) d_L_setSymbol_1 rfl ci_0 ?_
  refine sm_Haload_n (q := 3) d_L_setSymbol_2 rfl rfl ?_
  refine sm_Hiload_n (q := 4) d_L_setSymbol_3 rfl rfl ?_
  refine sm_Hiload_n (q := 5) d_L_setSymbol_4 rfl rfl ?_
  refine sm_HcallV (q := 8) (d' := 7) [.int 0, .ref 102] [.int x1, .int x2] d_L_setSymbol_5 rfl lk_L_27 (hx sx_0) rfl rfl rfl (Nat.le_of_ble_eq_true rfl) (Nat.le_of_ble_eq_true rfl) h (st9 := [.int v, .int 0, .ref 102]) rfl ?_
  refine sm_Hi2l (q := 9) d_L_setSymbol_8 rfl ?_
  refine sm_Hlastore (q := 10) d_L_setSymbol_9 rfl h2 (sm_ib_of (by decide)) ?_
  refine sm_Hgoto (t := 21) d_L_setSymbol_10 rfl rfl ?_
  refine sm_Hiconst (q := 22) d_L_setSymbol_21 rfl ci_0 ?_
  exact sm_Hiret d_L_setSymbol_22 rfl rfl rfl
set_option maxRecDepth 100000 in
theorem hX1_L_setSymbol {sk : List sm_Sh} (hx : sm_ext skX sk) (h2 : sk[102]? = some (.inl (3, 1, []))) (x1 x2 : Int32) {M M1 : sm_M} (h : sm_Ct yX11_setSymbol md_X11_setSymbol 7 sk (.ref 0 :: [.int x1, .int x2]) M (.inr "java/lang/IndexOutOfBoundsException") M1) : sm_CtH yL_setSymbol md_L_setSymbol hh_L_setSymbol 8 sk [.ref 0, .int x1, .int x2, .ref 102] M 1 M1 := by
  refine sm_Henter (ls0 := [some (.ref 0), some (.int x1), some (.int x2), some (.ref 102), none]) 1 pn_L rfl (Nat.le_of_ble_eq_true rfl) rfl ?_
  refine sm_Haload_n (q := 1) d_L_setSymbol_0 rfl rfl ?_
  refine sm_Hiconst (q := 2) d_L_setSymbol_1 rfl ci_0 ?_
  refine sm_Haload_n (q := 3) d_L_setSymbol_2 rfl rfl ?_
  refine sm_Hiload_n (q := 4) d_L_setSymbol_3 rfl rfl ?_
  refine sm_Hiload_n (q := 5) d_L_setSymbol_4 rfl rfl ?_
  exact sm_Hcatch (d' := 7) [.int 0, .ref 102] [.int x1, .int x2] d_L_setSymbol_5 lk_L_27 (hx sx_0) rfl rfl rfl (Nat.le_of_ble_eq_true rfl) (Nat.le_of_ble_eq_true rfl) h [] ⟨0, 10, 13, 19⟩ [⟨0, 10, 17, 13⟩] rfl (fun z hz => absurd hz List.not_mem_nil) (by decide) (by decide) cl_L_19 (by decide +kernel) (Or.inr ⟨rfl, rfl⟩) (Nat.le_of_ble_eq_true rfl) d_L_setSymbol_13 d_L_setSymbol_15 ci_1 d_L_setSymbol_16 rfl rfl rfl
set_option maxRecDepth 100000 in
theorem hX2_L_setSymbol {sk : List sm_Sh} (hx : sm_ext skX sk) (h2 : sk[102]? = some (.inl (3, 1, []))) (x1 x2 : Int32) {M M1 : sm_M} (h : sm_Ct yX11_setSymbol md_X11_setSymbol 7 sk (.ref 0 :: [.int x1, .int x2]) M (.inr "java/lang/IllegalArgumentException") M1) : sm_CtH yL_setSymbol md_L_setSymbol hh_L_setSymbol 8 sk [.ref 0, .int x1, .int x2, .ref 102] M 2 M1 := by
  refine sm_Henter (ls0 := [some (.ref 0), some (.int x1), some (.int x2), some (.ref 102), none]) 1 pn_L rfl (Nat.le_of_ble_eq_true rfl) rfl ?_
  refine sm_Haload_n (q := 1) d_L_setSymbol_0 rfl rfl ?_
  refine sm_Hiconst (q := 2) d_L_setSymbol_1 rfl ci_0 ?_
  refine sm_Haload_n (q := 3) d_L_setSymbol_2 rfl rfl ?_
  refine sm_Hiload_n (q := 4) d_L_setSymbol_3 rfl rfl ?_
  refine sm_Hiload_n (q := 5) d_L_setSymbol_4 rfl rfl ?_
  exact sm_Hcatch (d' := 7) [.int 0, .ref 102] [.int x1, .int x2] d_L_setSymbol_5 lk_L_27 (hx sx_0) rfl rfl rfl (Nat.le_of_ble_eq_true rfl) (Nat.le_of_ble_eq_true rfl) h [⟨0, 10, 13, 19⟩] ⟨0, 10, 17, 13⟩ [] rfl (List.forall_mem_cons.mpr ⟨⟨by decide, _, cl_L_19, by decide +kernel⟩, (fun _ h9 => absurd h9 List.not_mem_nil)⟩) (by decide) (by decide) cl_L_13 (by decide +kernel) (Or.inr ⟨rfl, rfl⟩) (Nat.le_of_ble_eq_true rfl) d_L_setSymbol_17 d_L_setSymbol_19 ci_2 d_L_setSymbol_20 rfl rfl rfl
abbrev md_L_symbolAt : sm_Md := (RL, cL_symbolAt, 4, (some .int))
abbrev hh_L_symbolAt : List (Nat × Nat × Nat × Nat) := [(0, 9, 12, 19)]
theorem d_L_symbolAt_0 : decode cL_symbolAt 0 = .ok (.aload_n 2, 1) := by decide +kernel
theorem d_L_symbolAt_1 : decode cL_symbolAt 1 = .ok (.iconst 0, 1) := by decide +kernel
theorem d_L_symbolAt_2 : decode cL_symbolAt 2 = .ok (.aload_n 0, 1) := by decide +kernel
theorem d_L_symbolAt_3 : decode cL_symbolAt 3 = .ok (.iload_n 1, 1) := by decide +kernel
theorem d_L_symbolAt_4 : decode cL_symbolAt 4 = .ok (.invokevirtual 30, 3) := by decide +kernel
theorem d_L_symbolAt_7 : decode cL_symbolAt 7 = .ok (.i2l, 1) := by decide +kernel
theorem d_L_symbolAt_8 : decode cL_symbolAt 8 = .ok (.lastore, 1) := by decide +kernel
theorem d_L_symbolAt_9 : decode cL_symbolAt 9 = .ok (.goto 6, 3) := by decide +kernel
theorem d_L_symbolAt_12 : decode cL_symbolAt 12 = .ok (.astore_n 3, 1) := by decide +kernel
theorem d_L_symbolAt_13 : decode cL_symbolAt 13 = .ok (.iconst 1, 1) := by decide +kernel
theorem d_L_symbolAt_14 : decode cL_symbolAt 14 = .ok (.ireturn, 1) := by decide +kernel
theorem d_L_symbolAt_15 : decode cL_symbolAt 15 = .ok (.iconst 0, 1) := by decide +kernel
theorem d_L_symbolAt_16 : decode cL_symbolAt 16 = .ok (.ireturn, 1) := by decide +kernel
theorem lk_L_30 : sm_LV RL 30 yX11_symbolAt md_X11_symbolAt 1 := ⟨sm_w (List.mem_of_getElem? (i := 831) (by decide +kernel)) rfl, sm_w (List.mem_of_getElem? (i := 832) (by decide +kernel)) rfl, sm_w (List.mem_of_getElem? (i := 833) (by decide +kernel)) rfl, sm_w (List.mem_of_getElem? (i := 59) (by decide +kernel)) rfl, sm_w (List.mem_of_getElem? (i := 834) (by decide +kernel)) rfl, by decide, by decide +kernel⟩
set_option maxRecDepth 100000 in
theorem hR_L_symbolAt {sk : List sm_Sh} (hx : sm_ext skX sk) (h2 : sk[102]? = some (.inl (3, 1, []))) (x1 : Int32) {M M1 : sm_M} {v : Int32} (h : sm_Ct yX11_symbolAt md_X11_symbolAt 7 sk (.ref 0 :: [.int x1]) M (.inl (some (.int v))) M1) : sm_CtH yL_symbolAt md_L_symbolAt hh_L_symbolAt 8 sk [.ref 0, .int x1, .ref 102] M 0 (sm_ml M1 102 0 v.toInt64) := by
  refine sm_Henter (ls0 := [some (.ref 0), some (.int x1), some (.ref 102), none]) 1 pn_L rfl (Nat.le_of_ble_eq_true rfl) rfl ?_
  refine sm_Haload_n (q := 1) d_L_symbolAt_0 rfl rfl ?_
  refine sm_Hiconst (q := 2) d_L_symbolAt_1 rfl ci_0 ?_
  refine sm_Haload_n (q := 3) d_L_symbolAt_2 rfl rfl ?_
  refine sm_Hiload_n (q := 4) d_L_symbolAt_3 rfl rfl ?_
  refine sm_HcallV (q := 7) (d' := 7) [.int 0, .ref 102] [.int x1] d_L_symbolAt_4 rfl lk_L_30 (hx sx_0) rfl rfl rfl (Nat.le_of_ble_eq_true rfl) (Nat.le_of_ble_eq_true rfl) h (st9 := [.int v, .int 0, .ref 102]) rfl ?_
  refine sm_Hi2l (q := 8) d_L_symbolAt_7 rfl ?_
  refine sm_Hlastore (q := 9) d_L_symbolAt_8 rfl h2 (sm_ib_of (by decide)) ?_
  refine sm_Hgoto (t := 15) d_L_symbolAt_9 rfl rfl ?_
  refine sm_Hiconst (q := 16) d_L_symbolAt_15 rfl ci_0 ?_
  exact sm_Hiret d_L_symbolAt_16 rfl rfl rfl
set_option maxRecDepth 100000 in
theorem hX1_L_symbolAt {sk : List sm_Sh} (hx : sm_ext skX sk) (h2 : sk[102]? = some (.inl (3, 1, []))) (x1 : Int32) {M M1 : sm_M} (h : sm_Ct yX11_symbolAt md_X11_symbolAt 7 sk (.ref 0 :: [.int x1]) M (.inr "java/lang/IndexOutOfBoundsException") M1) : sm_CtH yL_symbolAt md_L_symbolAt hh_L_symbolAt 8 sk [.ref 0, .int x1, .ref 102] M 1 M1 := by
  refine sm_Henter (ls0 := [some (.ref 0), some (.int x1), some (.ref 102), none]) 1 pn_L rfl (Nat.le_of_ble_eq_true rfl) rfl ?_
  refine sm_Haload_n (q := 1) d_L_symbolAt_0 rfl rfl ?_
  refine sm_Hiconst (q := 2) d_L_symbolAt_1 rfl ci_0 ?_
  refine sm_Haload_n (q := 3) d_L_symbolAt_2 rfl rfl ?_
  refine sm_Hiload_n (q := 4) d_L_symbolAt_3 rfl rfl ?_
  exact sm_Hcatch (d' := 7) [.int 0, .ref 102] [.int x1] d_L_symbolAt_4 lk_L_30 (hx sx_0) rfl rfl rfl (Nat.le_of_ble_eq_true rfl) (Nat.le_of_ble_eq_true rfl) h [] ⟨0, 9, 12, 19⟩ [] rfl (fun z hz => absurd hz List.not_mem_nil) (by decide) (by decide) cl_L_19 (by decide +kernel) (Or.inl ⟨3, rfl, rfl, rfl⟩) (Nat.le_of_ble_eq_true rfl) d_L_symbolAt_12 d_L_symbolAt_13 ci_1 d_L_symbolAt_14 rfl rfl rfl
abbrev md_L_undo : sm_Md := (RL, cL_undo, 3, (some .int))
abbrev hh_L_undo : List (Nat × Nat × Nat × Nat) := [(0, 8, 11, 37)]
theorem d_L_undo_0 : decode cL_undo 0 = .ok (.aload_n 1, 1) := by decide +kernel
theorem d_L_undo_1 : decode cL_undo 1 = .ok (.iconst 0, 1) := by decide +kernel
theorem d_L_undo_2 : decode cL_undo 2 = .ok (.aload_n 0, 1) := by decide +kernel
theorem d_L_undo_3 : decode cL_undo 3 = .ok (.invokevirtual 33, 3) := by decide +kernel
theorem d_L_undo_6 : decode cL_undo 6 = .ok (.i2l, 1) := by decide +kernel
theorem d_L_undo_7 : decode cL_undo 7 = .ok (.lastore, 1) := by decide +kernel
theorem d_L_undo_8 : decode cL_undo 8 = .ok (.goto 6, 3) := by decide +kernel
theorem d_L_undo_11 : decode cL_undo 11 = .ok (.astore_n 2, 1) := by decide +kernel
theorem d_L_undo_12 : decode cL_undo 12 = .ok (.iconst 1, 1) := by decide +kernel
theorem d_L_undo_13 : decode cL_undo 13 = .ok (.ireturn, 1) := by decide +kernel
theorem d_L_undo_14 : decode cL_undo 14 = .ok (.iconst 0, 1) := by decide +kernel
theorem d_L_undo_15 : decode cL_undo 15 = .ok (.ireturn, 1) := by decide +kernel
theorem lk_L_33 : sm_LV RL 33 yX11_undo md_X11_undo 0 := ⟨sm_w (List.mem_of_getElem? (i := 839) (by decide +kernel)) rfl, sm_w (List.mem_of_getElem? (i := 840) (by decide +kernel)) rfl, sm_w (List.mem_of_getElem? (i := 841) (by decide +kernel)) rfl, sm_w (List.mem_of_getElem? (i := 59) (by decide +kernel)) rfl, sm_w (List.mem_of_getElem? (i := 842) (by decide +kernel)) rfl, by decide, by decide +kernel⟩
set_option maxRecDepth 100000 in
theorem hR_L_undo {sk : List sm_Sh} (hx : sm_ext skX sk) (h2 : sk[102]? = some (.inl (3, 1, []))) {M M1 : sm_M} {v : Int32} (h : sm_Ct yX11_undo md_X11_undo 6 sk (.ref 0 :: []) M (.inl (some (.int v))) M1) : sm_CtH yL_undo md_L_undo hh_L_undo 7 sk [.ref 0, .ref 102] M 0 (sm_ml M1 102 0 v.toInt64) := by
  refine sm_Henter (ls0 := [some (.ref 0), some (.ref 102), none]) 1 pn_L rfl (Nat.le_of_ble_eq_true rfl) rfl ?_
  refine sm_Haload_n (q := 1) d_L_undo_0 rfl rfl ?_
  refine sm_Hiconst (q := 2) d_L_undo_1 rfl ci_0 ?_
  refine sm_Haload_n (q := 3) d_L_undo_2 rfl rfl ?_
  refine sm_HcallV (q := 6) (d' := 6) [.int 0, .ref 102] [] d_L_undo_3 rfl lk_L_33 (hx sx_0) rfl rfl rfl (Nat.le_of_ble_eq_true rfl) (Nat.le_of_ble_eq_true rfl) h (st9 := [.int v, .int 0, .ref 102]) rfl ?_
  refine sm_Hi2l (q := 7) d_L_undo_6 rfl ?_
  refine sm_Hlastore (q := 8) d_L_undo_7 rfl h2 (sm_ib_of (by decide)) ?_
  refine sm_Hgoto (t := 14) d_L_undo_8 rfl rfl ?_
  refine sm_Hiconst (q := 15) d_L_undo_14 rfl ci_0 ?_
  exact sm_Hiret d_L_undo_15 rfl rfl rfl
theorem cl_L_37 : Cond.classLink RL 37 "java/util/NoSuchElementException" ∈ sm_TB := sm_w (List.mem_of_getElem? (i := 838) (by decide +kernel)) rfl
set_option maxRecDepth 100000 in
theorem hX1_L_undo {sk : List sm_Sh} (hx : sm_ext skX sk) (h2 : sk[102]? = some (.inl (3, 1, []))) {M M1 : sm_M} (h : sm_Ct yX11_undo md_X11_undo 6 sk (.ref 0 :: []) M (.inr "java/util/NoSuchElementException") M1) : sm_CtH yL_undo md_L_undo hh_L_undo 7 sk [.ref 0, .ref 102] M 1 M1 := by
  refine sm_Henter (ls0 := [some (.ref 0), some (.ref 102), none]) 1 pn_L rfl (Nat.le_of_ble_eq_true rfl) rfl ?_
  refine sm_Haload_n (q := 1) d_L_undo_0 rfl rfl ?_
  refine sm_Hiconst (q := 2) d_L_undo_1 rfl ci_0 ?_
  refine sm_Haload_n (q := 3) d_L_undo_2 rfl rfl ?_
  exact sm_Hcatch (d' := 6) [.int 0, .ref 102] [] d_L_undo_3 lk_L_33 (hx sx_0) rfl rfl rfl (Nat.le_of_ble_eq_true rfl) (Nat.le_of_ble_eq_true rfl) h [] ⟨0, 8, 11, 37⟩ [] rfl (fun z hz => absurd hz List.not_mem_nil) (by decide) (by decide) cl_L_37 (by decide +kernel) (Or.inl ⟨2, rfl, rfl, rfl⟩) (Nat.le_of_ble_eq_true rfl) d_L_undo_11 d_L_undo_12 ci_1 d_L_undo_13 rfl rfl rfl
abbrev md_L_feed : sm_Md := (RL, cL_feed, 4, (some .int))
abbrev hh_L_feed : List (Nat × Nat × Nat × Nat) := [(0, 9, 12, 25)]
theorem d_L_feed_0 : decode cL_feed 0 = .ok (.aload_n 2, 1) := by decide +kernel
theorem d_L_feed_1 : decode cL_feed 1 = .ok (.iconst 0, 1) := by decide +kernel
theorem d_L_feed_2 : decode cL_feed 2 = .ok (.aload_n 0, 1) := by decide +kernel
theorem d_L_feed_3 : decode cL_feed 3 = .ok (.iload_n 1, 1) := by decide +kernel
theorem d_L_feed_4 : decode cL_feed 4 = .ok (.invokevirtual 39, 3) := by decide +kernel
theorem d_L_feed_7 : decode cL_feed 7 = .ok (.i2l, 1) := by decide +kernel
theorem d_L_feed_8 : decode cL_feed 8 = .ok (.lastore, 1) := by decide +kernel
theorem d_L_feed_9 : decode cL_feed 9 = .ok (.goto 6, 3) := by decide +kernel
theorem d_L_feed_12 : decode cL_feed 12 = .ok (.astore_n 3, 1) := by decide +kernel
theorem d_L_feed_13 : decode cL_feed 13 = .ok (.iconst 1, 1) := by decide +kernel
theorem d_L_feed_14 : decode cL_feed 14 = .ok (.ireturn, 1) := by decide +kernel
theorem d_L_feed_15 : decode cL_feed 15 = .ok (.iconst 0, 1) := by decide +kernel
theorem d_L_feed_16 : decode cL_feed 16 = .ok (.ireturn, 1) := by decide +kernel
theorem lk_L_39 : sm_LV RL 39 yX11_feed md_X11_feed 1 := ⟨sm_w (List.mem_of_getElem? (i := 866) (by decide +kernel)) rfl, sm_w (List.mem_of_getElem? (i := 867) (by decide +kernel)) rfl, sm_w (List.mem_of_getElem? (i := 868) (by decide +kernel)) rfl, sm_w (List.mem_of_getElem? (i := 59) (by decide +kernel)) rfl, sm_w (List.mem_of_getElem? (i := 869) (by decide +kernel)) rfl, by decide, by decide +kernel⟩
set_option maxRecDepth 100000 in
theorem hR_L_feed {sk : List sm_Sh} (hx : sm_ext skX sk) (h2 : sk[102]? = some (.inl (3, 1, []))) (x1 : Int32) {M M1 : sm_M} {v : Int32} (h : sm_Ct yX11_feed md_X11_feed 6 sk (.ref 0 :: [.int x1]) M (.inl (some (.int v))) M1) : sm_CtH yL_feed md_L_feed hh_L_feed 7 sk [.ref 0, .int x1, .ref 102] M 0 (sm_ml M1 102 0 v.toInt64) := by
  refine sm_Henter (ls0 := [some (.ref 0), some (.int x1), some (.ref 102), none]) 1 pn_L rfl (Nat.le_of_ble_eq_true rfl) rfl ?_
  refine sm_Haload_n (q := 1) d_L_feed_0 rfl rfl ?_
  refine sm_Hiconst (q := 2) d_L_feed_1 rfl ci_0 ?_
  refine sm_Haload_n (q := 3) d_L_feed_2 rfl rfl ?_
  refine sm_Hiload_n (q := 4) d_L_feed_3 rfl rfl ?_
  refine sm_HcallV (q := 7) (d' := 6) [.int 0, .ref 102] [.int x1] d_L_feed_4 rfl lk_L_39 (hx sx_0) rfl rfl rfl (Nat.le_of_ble_eq_true rfl) (Nat.le_of_ble_eq_true rfl) h (st9 := [.int v, .int 0, .ref 102]) rfl ?_
  refine sm_Hi2l (q := 8) d_L_feed_7 rfl ?_
  refine sm_Hlastore (q := 9) d_L_feed_8 rfl h2 (sm_ib_of (by decide)) ?_
  refine sm_Hgoto (t := 15) d_L_feed_9 rfl rfl ?_
  refine sm_Hiconst (q := 16) d_L_feed_15 rfl ci_0 ?_
  exact sm_Hiret d_L_feed_16 rfl rfl rfl
set_option maxRecDepth 100000 in
theorem hX1_L_feed {sk : List sm_Sh} (hx : sm_ext skX sk) (h2 : sk[102]? = some (.inl (3, 1, []))) (x1 : Int32) {M M1 : sm_M} (h : sm_Ct yX11_feed md_X11_feed 6 sk (.ref 0 :: [.int x1]) M (.inr "java/lang/IllegalStateException") M1) : sm_CtH yL_feed md_L_feed hh_L_feed 7 sk [.ref 0, .int x1, .ref 102] M 1 M1 := by
  refine sm_Henter (ls0 := [some (.ref 0), some (.int x1), some (.ref 102), none]) 1 pn_L rfl (Nat.le_of_ble_eq_true rfl) rfl ?_
  refine sm_Haload_n (q := 1) d_L_feed_0 rfl rfl ?_
  refine sm_Hiconst (q := 2) d_L_feed_1 rfl ci_0 ?_
  refine sm_Haload_n (q := 3) d_L_feed_2 rfl rfl ?_
  refine sm_Hiload_n (q := 4) d_L_feed_3 rfl rfl ?_
  exact sm_Hcatch (d' := 6) [.int 0, .ref 102] [.int x1] d_L_feed_4 lk_L_39 (hx sx_0) rfl rfl rfl (Nat.le_of_ble_eq_true rfl) (Nat.le_of_ble_eq_true rfl) h [] ⟨0, 9, 12, 25⟩ [] rfl (fun z hz => absurd hz List.not_mem_nil) (by decide) (by decide) cl_L_25 (by decide +kernel) (Or.inl ⟨3, rfl, rfl, rfl⟩) (Nat.le_of_ble_eq_true rfl) d_L_feed_12 d_L_feed_13 ci_1 d_L_feed_14 rfl rfl rfl
abbrev md_L_outputAt : sm_Md := (RL, cL_outputAt, 4, (some .int))
abbrev hh_L_outputAt : List (Nat × Nat × Nat × Nat) := [(0, 9, 12, 19)]
theorem d_L_outputAt_0 : decode cL_outputAt 0 = .ok (.aload_n 2, 1) := by decide +kernel
theorem d_L_outputAt_1 : decode cL_outputAt 1 = .ok (.iconst 0, 1) := by decide +kernel
theorem d_L_outputAt_2 : decode cL_outputAt 2 = .ok (.aload_n 0, 1) := by decide +kernel
theorem d_L_outputAt_3 : decode cL_outputAt 3 = .ok (.iload_n 1, 1) := by decide +kernel
theorem d_L_outputAt_4 : decode cL_outputAt 4 = .ok (.invokevirtual 43, 3) := by decide +kernel
theorem d_L_outputAt_7 : decode cL_outputAt 7 = .ok (.i2l, 1) := by decide +kernel
theorem d_L_outputAt_8 : decode cL_outputAt 8 = .ok (.lastore, 1) := by decide +kernel
theorem d_L_outputAt_9 : decode cL_outputAt 9 = .ok (.goto 6, 3) := by decide +kernel
theorem d_L_outputAt_12 : decode cL_outputAt 12 = .ok (.astore_n 3, 1) := by decide +kernel
theorem d_L_outputAt_13 : decode cL_outputAt 13 = .ok (.iconst 1, 1) := by decide +kernel
theorem d_L_outputAt_14 : decode cL_outputAt 14 = .ok (.ireturn, 1) := by decide +kernel
theorem d_L_outputAt_15 : decode cL_outputAt 15 = .ok (.iconst 0, 1) := by decide +kernel
theorem d_L_outputAt_16 : decode cL_outputAt 16 = .ok (.ireturn, 1) := by decide +kernel
theorem lk_L_43 : sm_LV RL 43 yX11_outputAt md_X11_outputAt 1 := ⟨sm_w (List.mem_of_getElem? (i := 874) (by decide +kernel)) rfl, sm_w (List.mem_of_getElem? (i := 875) (by decide +kernel)) rfl, sm_w (List.mem_of_getElem? (i := 876) (by decide +kernel)) rfl, sm_w (List.mem_of_getElem? (i := 59) (by decide +kernel)) rfl, sm_w (List.mem_of_getElem? (i := 877) (by decide +kernel)) rfl, by decide, by decide +kernel⟩
set_option maxRecDepth 100000 in
theorem hR_L_outputAt {sk : List sm_Sh} (hx : sm_ext skX sk) (h2 : sk[102]? = some (.inl (3, 1, []))) (x1 : Int32) {M M1 : sm_M} {v : Int32} (h : sm_Ct yX11_outputAt md_X11_outputAt 6 sk (.ref 0 :: [.int x1]) M (.inl (some (.int v))) M1) : sm_CtH yL_outputAt md_L_outputAt hh_L_outputAt 7 sk [.ref 0, .int x1, .ref 102] M 0 (sm_ml M1 102 0 v.toInt64) := by
  refine sm_Henter (ls0 := [some (.ref 0), some (.int x1), some (.ref 102), none]) 1 pn_L rfl (Nat.le_of_ble_eq_true rfl) rfl ?_
  refine sm_Haload_n (q := 1) d_L_outputAt_0 rfl rfl ?_
  refine sm_Hiconst (q := 2) d_L_outputAt_1 rfl ci_0 ?_
  refine sm_Haload_n (q := 3) d_L_outputAt_2 rfl rfl ?_
  refine sm_Hiload_n (q := 4) d_L_outputAt_3 rfl rfl ?_
  refine sm_HcallV (q := 7) (d' := 6) [.int 0, .ref 102] [.int x1] d_L_outputAt_4 rfl lk_L_43 (hx sx_0) rfl rfl rfl (Nat.le_of_ble_eq_true rfl) (Nat.le_of_ble_eq_true rfl) h (st9 := [.int v, .int 0, .ref 102]) rfl ?_
  refine sm_Hi2l (q := 8) d_L_outputAt_7 rfl ?_
  refine sm_Hlastore (q := 9) d_L_outputAt_8 rfl h2 (sm_ib_of (by decide)) ?_
  refine sm_Hgoto (t := 15) d_L_outputAt_9 rfl rfl ?_
  refine sm_Hiconst (q := 16) d_L_outputAt_15 rfl ci_0 ?_
  exact sm_Hiret d_L_outputAt_16 rfl rfl rfl
set_option maxRecDepth 100000 in
theorem hX1_L_outputAt {sk : List sm_Sh} (hx : sm_ext skX sk) (h2 : sk[102]? = some (.inl (3, 1, []))) (x1 : Int32) {M M1 : sm_M} (h : sm_Ct yX11_outputAt md_X11_outputAt 6 sk (.ref 0 :: [.int x1]) M (.inr "java/lang/IndexOutOfBoundsException") M1) : sm_CtH yL_outputAt md_L_outputAt hh_L_outputAt 7 sk [.ref 0, .int x1, .ref 102] M 1 M1 := by
  refine sm_Henter (ls0 := [some (.ref 0), some (.int x1), some (.ref 102), none]) 1 pn_L rfl (Nat.le_of_ble_eq_true rfl) rfl ?_
  refine sm_Haload_n (q := 1) d_L_outputAt_0 rfl rfl ?_
  refine sm_Hiconst (q := 2) d_L_outputAt_1 rfl ci_0 ?_
  refine sm_Haload_n (q := 3) d_L_outputAt_2 rfl rfl ?_
  refine sm_Hiload_n (q := 4) d_L_outputAt_3 rfl rfl ?_
  exact sm_Hcatch (d' := 6) [.int 0, .ref 102] [.int x1] d_L_outputAt_4 lk_L_43 (hx sx_0) rfl rfl rfl (Nat.le_of_ble_eq_true rfl) (Nat.le_of_ble_eq_true rfl) h [] ⟨0, 9, 12, 19⟩ [] rfl (fun z hz => absurd hz List.not_mem_nil) (by decide) (by decide) cl_L_19 (by decide +kernel) (Or.inl ⟨3, rfl, rfl, rfl⟩) (Nat.le_of_ble_eq_true rfl) d_L_outputAt_12 d_L_outputAt_13 ci_1 d_L_outputAt_14 rfl rfl rfl
abbrev md_L_shownAt : sm_Md := (RL, cL_shownAt, 4, (some .int))
abbrev hh_L_shownAt : List (Nat × Nat × Nat × Nat) := [(0, 9, 12, 19)]
theorem d_L_shownAt_0 : decode cL_shownAt 0 = .ok (.aload_n 2, 1) := by decide +kernel
theorem d_L_shownAt_1 : decode cL_shownAt 1 = .ok (.iconst 0, 1) := by decide +kernel
theorem d_L_shownAt_2 : decode cL_shownAt 2 = .ok (.aload_n 0, 1) := by decide +kernel
theorem d_L_shownAt_3 : decode cL_shownAt 3 = .ok (.iload_n 1, 1) := by decide +kernel
theorem d_L_shownAt_4 : decode cL_shownAt 4 = .ok (.invokevirtual 47, 3) := by decide +kernel
theorem d_L_shownAt_7 : decode cL_shownAt 7 = .ok (.i2l, 1) := by decide +kernel
theorem d_L_shownAt_8 : decode cL_shownAt 8 = .ok (.lastore, 1) := by decide +kernel
theorem d_L_shownAt_9 : decode cL_shownAt 9 = .ok (.goto 6, 3) := by decide +kernel
theorem d_L_shownAt_12 : decode cL_shownAt 12 = .ok (.astore_n 3, 1) := by decide +kernel
theorem d_L_shownAt_13 : decode cL_shownAt 13 = .ok (.iconst 1, 1) := by decide +kernel
theorem d_L_shownAt_14 : decode cL_shownAt 14 = .ok (.ireturn, 1) := by decide +kernel
theorem d_L_shownAt_15 : decode cL_shownAt 15 = .ok (.iconst 0, 1) := by decide +kernel
theorem d_L_shownAt_16 : decode cL_shownAt 16 = .ok (.ireturn, 1) := by decide +kernel
theorem lk_L_47 : sm_LV RL 47 yX11_shownAt md_X11_shownAt 1 := ⟨sm_w (List.mem_of_getElem? (i := 881) (by decide +kernel)) rfl, sm_w (List.mem_of_getElem? (i := 882) (by decide +kernel)) rfl, sm_w (List.mem_of_getElem? (i := 883) (by decide +kernel)) rfl, sm_w (List.mem_of_getElem? (i := 59) (by decide +kernel)) rfl, sm_w (List.mem_of_getElem? (i := 884) (by decide +kernel)) rfl, by decide, by decide +kernel⟩
set_option maxRecDepth 100000 in
theorem hR_L_shownAt {sk : List sm_Sh} (hx : sm_ext skX sk) (h2 : sk[102]? = some (.inl (3, 1, []))) (x1 : Int32) {M M1 : sm_M} {v : Int32} (h : sm_Ct yX11_shownAt md_X11_shownAt 7 sk (.ref 0 :: [.int x1]) M (.inl (some (.int v))) M1) : sm_CtH yL_shownAt md_L_shownAt hh_L_shownAt 8 sk [.ref 0, .int x1, .ref 102] M 0 (sm_ml M1 102 0 v.toInt64) := by
  refine sm_Henter (ls0 := [some (.ref 0), some (.int x1), some (.ref 102), none]) 1 pn_L rfl (Nat.le_of_ble_eq_true rfl) rfl ?_
  refine sm_Haload_n (q := 1) d_L_shownAt_0 rfl rfl ?_
  refine sm_Hiconst (q := 2) d_L_shownAt_1 rfl ci_0 ?_
  refine sm_Haload_n (q := 3) d_L_shownAt_2 rfl rfl ?_
  refine sm_Hiload_n (q := 4) d_L_shownAt_3 rfl rfl ?_
  refine sm_HcallV (q := 7) (d' := 7) [.int 0, .ref 102] [.int x1] d_L_shownAt_4 rfl lk_L_47 (hx sx_0) rfl rfl rfl (Nat.le_of_ble_eq_true rfl) (Nat.le_of_ble_eq_true rfl) h (st9 := [.int v, .int 0, .ref 102]) rfl ?_
  refine sm_Hi2l (q := 8) d_L_shownAt_7 rfl ?_
  refine sm_Hlastore (q := 9) d_L_shownAt_8 rfl h2 (sm_ib_of (by decide)) ?_
  refine sm_Hgoto (t := 15) d_L_shownAt_9 rfl rfl ?_
  refine sm_Hiconst (q := 16) d_L_shownAt_15 rfl ci_0 ?_
  exact sm_Hiret d_L_shownAt_16 rfl rfl rfl
set_option maxRecDepth 100000 in
theorem hX1_L_shownAt {sk : List sm_Sh} (hx : sm_ext skX sk) (h2 : sk[102]? = some (.inl (3, 1, []))) (x1 : Int32) {M M1 : sm_M} (h : sm_Ct yX11_shownAt md_X11_shownAt 7 sk (.ref 0 :: [.int x1]) M (.inr "java/lang/IndexOutOfBoundsException") M1) : sm_CtH yL_shownAt md_L_shownAt hh_L_shownAt 8 sk [.ref 0, .int x1, .ref 102] M 1 M1 := by
  refine sm_Henter (ls0 := [some (.ref 0), some (.int x1), some (.ref 102), none]) 1 pn_L rfl (Nat.le_of_ble_eq_true rfl) rfl ?_
  refine sm_Haload_n (q := 1) d_L_shownAt_0 rfl rfl ?_
  refine sm_Hiconst (q := 2) d_L_shownAt_1 rfl ci_0 ?_
  refine sm_Haload_n (q := 3) d_L_shownAt_2 rfl rfl ?_
  refine sm_Hiload_n (q := 4) d_L_shownAt_3 rfl rfl ?_
  exact sm_Hcatch (d' := 7) [.int 0, .ref 102] [.int x1] d_L_shownAt_4 lk_L_47 (hx sx_0) rfl rfl rfl (Nat.le_of_ble_eq_true rfl) (Nat.le_of_ble_eq_true rfl) h [] ⟨0, 9, 12, 19⟩ [] rfl (fun z hz => absurd hz List.not_mem_nil) (by decide) (by decide) cl_L_19 (by decide +kernel) (Or.inl ⟨3, rfl, rfl, rfl⟩) (Nat.le_of_ble_eq_true rfl) d_L_shownAt_12 d_L_shownAt_13 ci_1 d_L_shownAt_14 rfl rfl rfl
abbrev md_L_occurrences : sm_Md := (RL, cL_occurrences, 4, (some .int))
abbrev hh_L_occurrences : List (Nat × Nat × Nat × Nat) := [(0, 9, 12, 19)]
theorem d_L_occurrences_0 : decode cL_occurrences 0 = .ok (.aload_n 2, 1) := by decide +kernel
theorem d_L_occurrences_1 : decode cL_occurrences 1 = .ok (.iconst 0, 1) := by decide +kernel
theorem d_L_occurrences_2 : decode cL_occurrences 2 = .ok (.aload_n 0, 1) := by decide +kernel
theorem d_L_occurrences_3 : decode cL_occurrences 3 = .ok (.iload_n 1, 1) := by decide +kernel
theorem d_L_occurrences_4 : decode cL_occurrences 4 = .ok (.invokevirtual 50, 3) := by decide +kernel
theorem d_L_occurrences_7 : decode cL_occurrences 7 = .ok (.i2l, 1) := by decide +kernel
theorem d_L_occurrences_8 : decode cL_occurrences 8 = .ok (.lastore, 1) := by decide +kernel
theorem d_L_occurrences_9 : decode cL_occurrences 9 = .ok (.goto 6, 3) := by decide +kernel
theorem d_L_occurrences_12 : decode cL_occurrences 12 = .ok (.astore_n 3, 1) := by decide +kernel
theorem d_L_occurrences_13 : decode cL_occurrences 13 = .ok (.iconst 1, 1) := by decide +kernel
theorem d_L_occurrences_14 : decode cL_occurrences 14 = .ok (.ireturn, 1) := by decide +kernel
theorem d_L_occurrences_15 : decode cL_occurrences 15 = .ok (.iconst 0, 1) := by decide +kernel
theorem d_L_occurrences_16 : decode cL_occurrences 16 = .ok (.ireturn, 1) := by decide +kernel
theorem lk_L_50 : sm_LV RL 50 yX11_occurrences md_X11_occurrences 1 := ⟨sm_w (List.mem_of_getElem? (i := 889) (by decide +kernel)) rfl, sm_w (List.mem_of_getElem? (i := 890) (by decide +kernel)) rfl, sm_w (List.mem_of_getElem? (i := 891) (by decide +kernel)) rfl, sm_w (List.mem_of_getElem? (i := 59) (by decide +kernel)) rfl, sm_w (List.mem_of_getElem? (i := 892) (by decide +kernel)) rfl, by decide, by decide +kernel⟩
set_option maxRecDepth 100000 in
theorem hR_L_occurrences {sk : List sm_Sh} (hx : sm_ext skX sk) (h2 : sk[102]? = some (.inl (3, 1, []))) (x1 : Int32) {M M1 : sm_M} {v : Int32} (h : sm_Ct yX11_occurrences md_X11_occurrences 7 sk (.ref 0 :: [.int x1]) M (.inl (some (.int v))) M1) : sm_CtH yL_occurrences md_L_occurrences hh_L_occurrences 8 sk [.ref 0, .int x1, .ref 102] M 0 (sm_ml M1 102 0 v.toInt64) := by
  refine sm_Henter (ls0 := [some (.ref 0), some (.int x1), some (.ref 102), none]) 1 pn_L rfl (Nat.le_of_ble_eq_true rfl) rfl ?_
  refine sm_Haload_n (q := 1) d_L_occurrences_0 rfl rfl ?_
  refine sm_Hiconst (q := 2) d_L_occurrences_1 rfl ci_0 ?_
  refine sm_Haload_n (q := 3) d_L_occurrences_2 rfl rfl ?_
  refine sm_Hiload_n (q := 4) d_L_occurrences_3 rfl rfl ?_
  refine sm_HcallV (q := 7) (d' := 7) [.int 0, .ref 102] [.int x1] d_L_occurrences_4 rfl lk_L_50 (hx sx_0) rfl rfl rfl (Nat.le_of_ble_eq_true rfl) (Nat.le_of_ble_eq_true rfl) h (st9 := [.int v, .int 0, .ref 102]) rfl ?_
  refine sm_Hi2l (q := 8) d_L_occurrences_7 rfl ?_
  refine sm_Hlastore (q := 9) d_L_occurrences_8 rfl h2 (sm_ib_of (by decide)) ?_
  refine sm_Hgoto (t := 15) d_L_occurrences_9 rfl rfl ?_
  refine sm_Hiconst (q := 16) d_L_occurrences_15 rfl ci_0 ?_
  exact sm_Hiret d_L_occurrences_16 rfl rfl rfl
set_option maxRecDepth 100000 in
theorem hX1_L_occurrences {sk : List sm_Sh} (hx : sm_ext skX sk) (h2 : sk[102]? = some (.inl (3, 1, []))) (x1 : Int32) {M M1 : sm_M} (h : sm_Ct yX11_occurrences md_X11_occurrences 7 sk (.ref 0 :: [.int x1]) M (.inr "java/lang/IndexOutOfBoundsException") M1) : sm_CtH yL_occurrences md_L_occurrences hh_L_occurrences 8 sk [.ref 0, .int x1, .ref 102] M 1 M1 := by
  refine sm_Henter (ls0 := [some (.ref 0), some (.int x1), some (.ref 102), none]) 1 pn_L rfl (Nat.le_of_ble_eq_true rfl) rfl ?_
  refine sm_Haload_n (q := 1) d_L_occurrences_0 rfl rfl ?_
  refine sm_Hiconst (q := 2) d_L_occurrences_1 rfl ci_0 ?_
  refine sm_Haload_n (q := 3) d_L_occurrences_2 rfl rfl ?_
  refine sm_Hiload_n (q := 4) d_L_occurrences_3 rfl rfl ?_
  exact sm_Hcatch (d' := 7) [.int 0, .ref 102] [.int x1] d_L_occurrences_4 lk_L_50 (hx sx_0) rfl rfl rfl (Nat.le_of_ble_eq_true rfl) (Nat.le_of_ble_eq_true rfl) h [] ⟨0, 9, 12, 19⟩ [] rfl (fun z hz => absurd hz List.not_mem_nil) (by decide) (by decide) cl_L_19 (by decide +kernel) (Or.inl ⟨3, rfl, rfl, rfl⟩) (Nat.le_of_ble_eq_true rfl) d_L_occurrences_12 d_L_occurrences_13 ci_1 d_L_occurrences_14 rfl rfl rfl
abbrev md_L_locate : sm_Md := (RL, cL_locate, 4, (some .int))
abbrev hh_L_locate : List (Nat × Nat × Nat × Nat) := [(0, 9, 12, 19), (0, 9, 15, 37)]
theorem d_L_locate_0 : decode cL_locate 0 = .ok (.aload_n 2, 1) := by decide +kernel
theorem d_L_locate_1 : decode cL_locate 1 = .ok (.iconst 0, 1) := by decide +kernel
theorem d_L_locate_2 : decode cL_locate 2 = .ok (.aload_n 0, 1) := by decide +kernel
theorem d_L_locate_3 : decode cL_locate 3 = .ok (.iload_n 1, 1) := by decide +kernel
theorem d_L_locate_4 : decode cL_locate 4 = .ok (.invokevirtual 53, 3) := by decide +kernel
theorem d_L_locate_7 : decode cL_locate 7 = .ok (.i2l, 1) := by decide +kernel
theorem d_L_locate_8 : decode cL_locate 8 = .ok (.lastore, 1) := by decide +kernel
theorem d_L_locate_9 : decode cL_locate 9 = .ok (.goto 9, 3) := by decide +kernel
theorem d_L_locate_12 : decode cL_locate 12 = .ok (.astore_n 3, 1) := by decide +kernel
theorem d_L_locate_13 : decode cL_locate 13 = .ok (.iconst 1, 1) := by decide +kernel
theorem d_L_locate_14 : decode cL_locate 14 = .ok (.ireturn, 1) := by decide +kernel
theorem d_L_locate_15 : decode cL_locate 15 = .ok (.astore_n 3, 1) := by decide +kernel
theorem d_L_locate_16 : decode cL_locate 16 = .ok (.iconst 2, 1) := by decide +kernel
theorem d_L_locate_17 : decode cL_locate 17 = .ok (.ireturn, 1) := by decide +kernel
theorem d_L_locate_18 : decode cL_locate 18 = .ok (.iconst 0, 1) := by decide +kernel
theorem d_L_locate_19 : decode cL_locate 19 = .ok (.ireturn, 1) := by decide +kernel
theorem lk_L_53 : sm_LV RL 53 yX11_locate md_X11_locate 1 := ⟨sm_w (List.mem_of_getElem? (i := 896) (by decide +kernel)) rfl, sm_w (List.mem_of_getElem? (i := 897) (by decide +kernel)) rfl, sm_w (List.mem_of_getElem? (i := 898) (by decide +kernel)) rfl, sm_w (List.mem_of_getElem? (i := 59) (by decide +kernel)) rfl, sm_w (List.mem_of_getElem? (i := 899) (by decide +kernel)) rfl, by decide, by decide +kernel⟩
set_option maxRecDepth 100000 in
theorem hR_L_locate {sk : List sm_Sh} (hx : sm_ext skX sk) (h2 : sk[102]? = some (.inl (3, 1, []))) (x1 : Int32) {M M1 : sm_M} {v : Int32} (h : sm_Ct yX11_locate md_X11_locate 7 sk (.ref 0 :: [.int x1]) M (.inl (some (.int v))) M1) : sm_CtH yL_locate md_L_locate hh_L_locate 8 sk [.ref 0, .int x1, .ref 102] M 0 (sm_ml M1 102 0 v.toInt64) := by
  refine sm_Henter (ls0 := [some (.ref 0), some (.int x1), some (.ref 102), none]) 1 pn_L rfl (Nat.le_of_ble_eq_true rfl) rfl ?_
  refine sm_Haload_n (q := 1) d_L_locate_0 rfl rfl ?_
  refine sm_Hiconst (q := 2) d_L_locate_1 rfl ci_0 ?_
  refine sm_Haload_n (q := 3) d_L_locate_2 rfl rfl ?_
  refine sm_Hiload_n (q := 4) d_L_locate_3 rfl rfl ?_
  refine sm_HcallV (q := 7) (d' := 7) [.int 0, .ref 102] [.int x1] d_L_locate_4 rfl lk_L_53 (hx sx_0) rfl rfl rfl (Nat.le_of_ble_eq_true rfl) (Nat.le_of_ble_eq_true rfl) h (st9 := [.int v, .int 0, .ref 102]) rfl ?_
  refine sm_Hi2l (q := 8) d_L_locate_7 rfl ?_
  refine sm_Hlastore (q := 9) d_L_locate_8 rfl h2 (sm_ib_of (by decide)) ?_
  refine sm_Hgoto (t := 18) d_L_locate_9 rfl rfl ?_
  refine sm_Hiconst (q := 19) d_L_locate_18 rfl ci_0 ?_
  exact sm_Hiret d_L_locate_19 rfl rfl rfl
set_option maxRecDepth 100000 in
theorem hX1_L_locate {sk : List sm_Sh} (hx : sm_ext skX sk) (h2 : sk[102]? = some (.inl (3, 1, []))) (x1 : Int32) {M M1 : sm_M} (h : sm_Ct yX11_locate md_X11_locate 7 sk (.ref 0 :: [.int x1]) M (.inr "java/lang/IndexOutOfBoundsException") M1) : sm_CtH yL_locate md_L_locate hh_L_locate 8 sk [.ref 0, .int x1, .ref 102] M 1 M1 := by
  refine sm_Henter (ls0 := [some (.ref 0), some (.int x1), some (.ref 102), none]) 1 pn_L rfl (Nat.le_of_ble_eq_true rfl) rfl ?_
  refine sm_Haload_n (q := 1) d_L_locate_0 rfl rfl ?_
  refine sm_Hiconst (q := 2) d_L_locate_1 rfl ci_0 ?_
  refine sm_Haload_n (q := 3) d_L_locate_2 rfl rfl ?_
  refine sm_Hiload_n (q := 4) d_L_locate_3 rfl rfl ?_
  exact sm_Hcatch (d' := 7) [.int 0, .ref 102] [.int x1] d_L_locate_4 lk_L_53 (hx sx_0) rfl rfl rfl (Nat.le_of_ble_eq_true rfl) (Nat.le_of_ble_eq_true rfl) h [] ⟨0, 9, 12, 19⟩ [⟨0, 9, 15, 37⟩] rfl (fun z hz => absurd hz List.not_mem_nil) (by decide) (by decide) cl_L_19 (by decide +kernel) (Or.inl ⟨3, rfl, rfl, rfl⟩) (Nat.le_of_ble_eq_true rfl) d_L_locate_12 d_L_locate_13 ci_1 d_L_locate_14 rfl rfl rfl
set_option maxRecDepth 100000 in
theorem hX2_L_locate {sk : List sm_Sh} (hx : sm_ext skX sk) (h2 : sk[102]? = some (.inl (3, 1, []))) (x1 : Int32) {M M1 : sm_M} (h : sm_Ct yX11_locate md_X11_locate 7 sk (.ref 0 :: [.int x1]) M (.inr "java/util/NoSuchElementException") M1) : sm_CtH yL_locate md_L_locate hh_L_locate 8 sk [.ref 0, .int x1, .ref 102] M 2 M1 := by
  refine sm_Henter (ls0 := [some (.ref 0), some (.int x1), some (.ref 102), none]) 1 pn_L rfl (Nat.le_of_ble_eq_true rfl) rfl ?_
  refine sm_Haload_n (q := 1) d_L_locate_0 rfl rfl ?_
  refine sm_Hiconst (q := 2) d_L_locate_1 rfl ci_0 ?_
  refine sm_Haload_n (q := 3) d_L_locate_2 rfl rfl ?_
  refine sm_Hiload_n (q := 4) d_L_locate_3 rfl rfl ?_
  exact sm_Hcatch (d' := 7) [.int 0, .ref 102] [.int x1] d_L_locate_4 lk_L_53 (hx sx_0) rfl rfl rfl (Nat.le_of_ble_eq_true rfl) (Nat.le_of_ble_eq_true rfl) h [⟨0, 9, 12, 19⟩] ⟨0, 9, 15, 37⟩ [] rfl (List.forall_mem_cons.mpr ⟨⟨by decide, _, cl_L_19, by decide +kernel⟩, (fun _ h9 => absurd h9 List.not_mem_nil)⟩) (by decide) (by decide) cl_L_37 (by decide +kernel) (Or.inl ⟨3, rfl, rfl, rfl⟩) (Nat.le_of_ble_eq_true rfl) d_L_locate_15 d_L_locate_16 ci_2 d_L_locate_17 rfl rfl rfl
abbrev md_L_shownBits : sm_Md := (RL, cL_shownBits, 4, (some .int))
abbrev hh_L_shownBits : List (Nat × Nat × Nat × Nat) := [(0, 8, 11, 13)]
theorem d_L_shownBits_0 : decode cL_shownBits 0 = .ok (.aload_n 2, 1) := by decide +kernel
theorem d_L_shownBits_1 : decode cL_shownBits 1 = .ok (.iconst 0, 1) := by decide +kernel
theorem d_L_shownBits_2 : decode cL_shownBits 2 = .ok (.aload_n 0, 1) := by decide +kernel
theorem d_L_shownBits_3 : decode cL_shownBits 3 = .ok (.iload_n 1, 1) := by decide +kernel
theorem d_L_shownBits_4 : decode cL_shownBits 4 = .ok (.invokevirtual 56, 3) := by decide +kernel
theorem d_L_shownBits_7 : decode cL_shownBits 7 = .ok (.lastore, 1) := by decide +kernel
theorem d_L_shownBits_8 : decode cL_shownBits 8 = .ok (.goto 6, 3) := by decide +kernel
theorem d_L_shownBits_11 : decode cL_shownBits 11 = .ok (.astore_n 3, 1) := by decide +kernel
theorem d_L_shownBits_12 : decode cL_shownBits 12 = .ok (.iconst 1, 1) := by decide +kernel
theorem d_L_shownBits_13 : decode cL_shownBits 13 = .ok (.ireturn, 1) := by decide +kernel
theorem d_L_shownBits_14 : decode cL_shownBits 14 = .ok (.iconst 0, 1) := by decide +kernel
theorem d_L_shownBits_15 : decode cL_shownBits 15 = .ok (.ireturn, 1) := by decide +kernel
theorem lk_L_56 : sm_LV RL 56 yX11_shownBits md_X11_shownBits 1 := ⟨sm_w (List.mem_of_getElem? (i := 904) (by decide +kernel)) rfl, sm_w (List.mem_of_getElem? (i := 905) (by decide +kernel)) rfl, sm_w (List.mem_of_getElem? (i := 906) (by decide +kernel)) rfl, sm_w (List.mem_of_getElem? (i := 59) (by decide +kernel)) rfl, sm_w (List.mem_of_getElem? (i := 907) (by decide +kernel)) rfl, by decide, by decide +kernel⟩
set_option maxRecDepth 100000 in
theorem hR_L_shownBits {sk : List sm_Sh} (hx : sm_ext skX sk) (h2 : sk[102]? = some (.inl (3, 1, []))) (x1 : Int32) {M M1 : sm_M} {v : Int64} (h : sm_Ct yX11_shownBits md_X11_shownBits 6 sk (.ref 0 :: [.int x1]) M (.inl (some (.long v))) M1) : sm_CtH yL_shownBits md_L_shownBits hh_L_shownBits 7 sk [.ref 0, .int x1, .ref 102] M 0 (sm_ml M1 102 0 v) := by
  refine sm_Henter (ls0 := [some (.ref 0), some (.int x1), some (.ref 102), none]) 1 pn_L rfl (Nat.le_of_ble_eq_true rfl) rfl ?_
  refine sm_Haload_n (q := 1) d_L_shownBits_0 rfl rfl ?_
  refine sm_Hiconst (q := 2) d_L_shownBits_1 rfl ci_0 ?_
  refine sm_Haload_n (q := 3) d_L_shownBits_2 rfl rfl ?_
  refine sm_Hiload_n (q := 4) d_L_shownBits_3 rfl rfl ?_
  refine sm_HcallV (q := 7) (d' := 6) [.int 0, .ref 102] [.int x1] d_L_shownBits_4 rfl lk_L_56 (hx sx_0) rfl rfl rfl (Nat.le_of_ble_eq_true rfl) (Nat.le_of_ble_eq_true rfl) h (st9 := [.long v, .int 0, .ref 102]) rfl ?_
  refine sm_Hlastore (q := 8) d_L_shownBits_7 rfl h2 (sm_ib_of (by decide)) ?_
  refine sm_Hgoto (t := 14) d_L_shownBits_8 rfl rfl ?_
  refine sm_Hiconst (q := 15) d_L_shownBits_14 rfl ci_0 ?_
  exact sm_Hiret d_L_shownBits_15 rfl rfl rfl
set_option maxRecDepth 100000 in
theorem hX1_L_shownBits {sk : List sm_Sh} (hx : sm_ext skX sk) (h2 : sk[102]? = some (.inl (3, 1, []))) (x1 : Int32) {M M1 : sm_M} (h : sm_Ct yX11_shownBits md_X11_shownBits 6 sk (.ref 0 :: [.int x1]) M (.inr "java/lang/IllegalArgumentException") M1) : sm_CtH yL_shownBits md_L_shownBits hh_L_shownBits 7 sk [.ref 0, .int x1, .ref 102] M 1 M1 := by
  refine sm_Henter (ls0 := [some (.ref 0), some (.int x1), some (.ref 102), none]) 1 pn_L rfl (Nat.le_of_ble_eq_true rfl) rfl ?_
  refine sm_Haload_n (q := 1) d_L_shownBits_0 rfl rfl ?_
  refine sm_Hiconst (q := 2) d_L_shownBits_1 rfl ci_0 ?_
  refine sm_Haload_n (q := 3) d_L_shownBits_2 rfl rfl ?_
  refine sm_Hiload_n (q := 4) d_L_shownBits_3 rfl rfl ?_
  exact sm_Hcatch (d' := 6) [.int 0, .ref 102] [.int x1] d_L_shownBits_4 lk_L_56 (hx sx_0) rfl rfl rfl (Nat.le_of_ble_eq_true rfl) (Nat.le_of_ble_eq_true rfl) h [] ⟨0, 8, 11, 13⟩ [] rfl (fun z hz => absurd hz List.not_mem_nil) (by decide) (by decide) cl_L_13 (by decide +kernel) (Or.inl ⟨3, rfl, rfl, rfl⟩) (Nat.le_of_ble_eq_true rfl) d_L_shownBits_11 d_L_shownBits_12 ci_1 d_L_shownBits_13 rfl rfl rfl
abbrev md_L_longestRunStart : sm_Md := (RL, cL_longestRunStart, 3, (some .int))
abbrev hh_L_longestRunStart : List (Nat × Nat × Nat × Nat) := [(0, 8, 11, 25)]
theorem d_L_longestRunStart_0 : decode cL_longestRunStart 0 = .ok (.aload_n 1, 1) := by decide +kernel
theorem d_L_longestRunStart_1 : decode cL_longestRunStart 1 = .ok (.iconst 0, 1) := by decide +kernel
theorem d_L_longestRunStart_2 : decode cL_longestRunStart 2 = .ok (.aload_n 0, 1) := by decide +kernel
theorem d_L_longestRunStart_3 : decode cL_longestRunStart 3 = .ok (.invokevirtual 60, 3) := by decide +kernel
theorem d_L_longestRunStart_6 : decode cL_longestRunStart 6 = .ok (.i2l, 1) := by decide +kernel
theorem d_L_longestRunStart_7 : decode cL_longestRunStart 7 = .ok (.lastore, 1) := by decide +kernel
theorem d_L_longestRunStart_8 : decode cL_longestRunStart 8 = .ok (.goto 6, 3) := by decide +kernel
theorem d_L_longestRunStart_11 : decode cL_longestRunStart 11 = .ok (.astore_n 2, 1) := by decide +kernel
theorem d_L_longestRunStart_12 : decode cL_longestRunStart 12 = .ok (.iconst 1, 1) := by decide +kernel
theorem d_L_longestRunStart_13 : decode cL_longestRunStart 13 = .ok (.ireturn, 1) := by decide +kernel
theorem d_L_longestRunStart_14 : decode cL_longestRunStart 14 = .ok (.iconst 0, 1) := by decide +kernel
theorem d_L_longestRunStart_15 : decode cL_longestRunStart 15 = .ok (.ireturn, 1) := by decide +kernel
theorem lk_L_60 : sm_LV RL 60 yX11_longestRunStart md_X11_longestRunStart 0 := ⟨sm_w (List.mem_of_getElem? (i := 916) (by decide +kernel)) rfl, sm_w (List.mem_of_getElem? (i := 917) (by decide +kernel)) rfl, sm_w (List.mem_of_getElem? (i := 918) (by decide +kernel)) rfl, sm_w (List.mem_of_getElem? (i := 59) (by decide +kernel)) rfl, sm_w (List.mem_of_getElem? (i := 919) (by decide +kernel)) rfl, by decide, by decide +kernel⟩
set_option maxRecDepth 100000 in
theorem hR_L_longestRunStart {sk : List sm_Sh} (hx : sm_ext skX sk) (h2 : sk[102]? = some (.inl (3, 1, []))) {M M1 : sm_M} {v : Int32} (h : sm_Ct yX11_longestRunStart md_X11_longestRunStart 7 sk (.ref 0 :: []) M (.inl (some (.int v))) M1) : sm_CtH yL_longestRunStart md_L_longestRunStart hh_L_longestRunStart 8 sk [.ref 0, .ref 102] M 0 (sm_ml M1 102 0 v.toInt64) := by
  refine sm_Henter (ls0 := [some (.ref 0), some (.ref 102), none]) 1 pn_L rfl (Nat.le_of_ble_eq_true rfl) rfl ?_
  refine sm_Haload_n (q := 1) d_L_longestRunStart_0 rfl rfl ?_
  refine sm_Hiconst (q := 2) d_L_longestRunStart_1 rfl ci_0 ?_
  refine sm_Haload_n (q := 3) d_L_longestRunStart_2 rfl rfl ?_
  refine sm_HcallV (q := 6) (d' := 7) [.int 0, .ref 102] [] d_L_longestRunStart_3 rfl lk_L_60 (hx sx_0) rfl rfl rfl (Nat.le_of_ble_eq_true rfl) (Nat.le_of_ble_eq_true rfl) h (st9 := [.int v, .int 0, .ref 102]) rfl ?_
  refine sm_Hi2l (q := 7) d_L_longestRunStart_6 rfl ?_
  refine sm_Hlastore (q := 8) d_L_longestRunStart_7 rfl h2 (sm_ib_of (by decide)) ?_
  refine sm_Hgoto (t := 14) d_L_longestRunStart_8 rfl rfl ?_
  refine sm_Hiconst (q := 15) d_L_longestRunStart_14 rfl ci_0 ?_
  exact sm_Hiret d_L_longestRunStart_15 rfl rfl rfl
set_option maxRecDepth 100000 in
theorem hX1_L_longestRunStart {sk : List sm_Sh} (hx : sm_ext skX sk) (h2 : sk[102]? = some (.inl (3, 1, []))) {M M1 : sm_M} (h : sm_Ct yX11_longestRunStart md_X11_longestRunStart 7 sk (.ref 0 :: []) M (.inr "java/lang/IllegalStateException") M1) : sm_CtH yL_longestRunStart md_L_longestRunStart hh_L_longestRunStart 8 sk [.ref 0, .ref 102] M 1 M1 := by
  refine sm_Henter (ls0 := [some (.ref 0), some (.ref 102), none]) 1 pn_L rfl (Nat.le_of_ble_eq_true rfl) rfl ?_
  refine sm_Haload_n (q := 1) d_L_longestRunStart_0 rfl rfl ?_
  refine sm_Hiconst (q := 2) d_L_longestRunStart_1 rfl ci_0 ?_
  refine sm_Haload_n (q := 3) d_L_longestRunStart_2 rfl rfl ?_
  exact sm_Hcatch (d' := 7) [.int 0, .ref 102] [] d_L_longestRunStart_3 lk_L_60 (hx sx_0) rfl rfl rfl (Nat.le_of_ble_eq_true rfl) (Nat.le_of_ble_eq_true rfl) h [] ⟨0, 8, 11, 25⟩ [] rfl (fun z hz => absurd hz List.not_mem_nil) (by decide) (by decide) cl_L_25 (by decide +kernel) (Or.inl ⟨2, rfl, rfl, rfl⟩) (Nat.le_of_ble_eq_true rfl) d_L_longestRunStart_11 d_L_longestRunStart_12 ci_1 d_L_longestRunStart_13 rfl rfl rfl
abbrev md_L_rotate : sm_Md := (RL, cL_rotate, 4, (some .int))
abbrev hh_L_rotate : List (Nat × Nat × Nat × Nat) := [(0, 9, 12, 19)]
theorem d_L_rotate_0 : decode cL_rotate 0 = .ok (.aload_n 2, 1) := by decide +kernel
theorem d_L_rotate_1 : decode cL_rotate 1 = .ok (.iconst 0, 1) := by decide +kernel
theorem d_L_rotate_2 : decode cL_rotate 2 = .ok (.aload_n 0, 1) := by decide +kernel
theorem d_L_rotate_3 : decode cL_rotate 3 = .ok (.iload_n 1, 1) := by decide +kernel
theorem d_L_rotate_4 : decode cL_rotate 4 = .ok (.invokevirtual 63, 3) := by decide +kernel
theorem d_L_rotate_7 : decode cL_rotate 7 = .ok (.i2l, 1) := by decide +kernel
theorem d_L_rotate_8 : decode cL_rotate 8 = .ok (.lastore, 1) := by decide +kernel
theorem d_L_rotate_9 : decode cL_rotate 9 = .ok (.goto 6, 3) := by decide +kernel
theorem d_L_rotate_12 : decode cL_rotate 12 = .ok (.astore_n 3, 1) := by decide +kernel
theorem d_L_rotate_13 : decode cL_rotate 13 = .ok (.iconst 1, 1) := by decide +kernel
theorem d_L_rotate_14 : decode cL_rotate 14 = .ok (.ireturn, 1) := by decide +kernel
theorem d_L_rotate_15 : decode cL_rotate 15 = .ok (.iconst 0, 1) := by decide +kernel
theorem d_L_rotate_16 : decode cL_rotate 16 = .ok (.ireturn, 1) := by decide +kernel
theorem lk_L_63 : sm_LV RL 63 yX11_rotate md_X11_rotate 1 := ⟨sm_w (List.mem_of_getElem? (i := 928) (by decide +kernel)) rfl, sm_w (List.mem_of_getElem? (i := 929) (by decide +kernel)) rfl, sm_w (List.mem_of_getElem? (i := 930) (by decide +kernel)) rfl, sm_w (List.mem_of_getElem? (i := 59) (by decide +kernel)) rfl, sm_w (List.mem_of_getElem? (i := 931) (by decide +kernel)) rfl, by decide, by decide +kernel⟩
set_option maxRecDepth 100000 in
theorem hR_L_rotate {sk : List sm_Sh} (hx : sm_ext skX sk) (h2 : sk[102]? = some (.inl (3, 1, []))) (x1 : Int32) {M M1 : sm_M} {v : Int32} (h : sm_Ct yX11_rotate md_X11_rotate 7 sk (.ref 0 :: [.int x1]) M (.inl (some (.int v))) M1) : sm_CtH yL_rotate md_L_rotate hh_L_rotate 8 sk [.ref 0, .int x1, .ref 102] M 0 (sm_ml M1 102 0 v.toInt64) := by
  refine sm_Henter (ls0 := [some (.ref 0), some (.int x1), some (.ref 102), none]) 1 pn_L rfl (Nat.le_of_ble_eq_true rfl) rfl ?_
  refine sm_Haload_n (q := 1) d_L_rotate_0 rfl rfl ?_
  refine sm_Hiconst (q := 2) d_L_rotate_1 rfl ci_0 ?_
  refine sm_Haload_n (q := 3) d_L_rotate_2 rfl rfl ?_
  refine sm_Hiload_n (q := 4) d_L_rotate_3 rfl rfl ?_
  refine sm_HcallV (q := 7) (d' := 7) [.int 0, .ref 102] [.int x1] d_L_rotate_4 rfl lk_L_63 (hx sx_0) rfl rfl rfl (Nat.le_of_ble_eq_true rfl) (Nat.le_of_ble_eq_true rfl) h (st9 := [.int v, .int 0, .ref 102]) rfl ?_
  refine sm_Hi2l (q := 8) d_L_rotate_7 rfl ?_
  refine sm_Hlastore (q := 9) d_L_rotate_8 rfl h2 (sm_ib_of (by decide)) ?_
  refine sm_Hgoto (t := 15) d_L_rotate_9 rfl rfl ?_
  refine sm_Hiconst (q := 16) d_L_rotate_15 rfl ci_0 ?_
  exact sm_Hiret d_L_rotate_16 rfl rfl rfl
set_option maxRecDepth 100000 in
theorem hX1_L_rotate {sk : List sm_Sh} (hx : sm_ext skX sk) (h2 : sk[102]? = some (.inl (3, 1, []))) (x1 : Int32) {M M1 : sm_M} (h : sm_Ct yX11_rotate md_X11_rotate 7 sk (.ref 0 :: [.int x1]) M (.inr "java/lang/IndexOutOfBoundsException") M1) : sm_CtH yL_rotate md_L_rotate hh_L_rotate 8 sk [.ref 0, .int x1, .ref 102] M 1 M1 := by
  refine sm_Henter (ls0 := [some (.ref 0), some (.int x1), some (.ref 102), none]) 1 pn_L rfl (Nat.le_of_ble_eq_true rfl) rfl ?_
  refine sm_Haload_n (q := 1) d_L_rotate_0 rfl rfl ?_
  refine sm_Hiconst (q := 2) d_L_rotate_1 rfl ci_0 ?_
  refine sm_Haload_n (q := 3) d_L_rotate_2 rfl rfl ?_
  refine sm_Hiload_n (q := 4) d_L_rotate_3 rfl rfl ?_
  exact sm_Hcatch (d' := 7) [.int 0, .ref 102] [.int x1] d_L_rotate_4 lk_L_63 (hx sx_0) rfl rfl rfl (Nat.le_of_ble_eq_true rfl) (Nat.le_of_ble_eq_true rfl) h [] ⟨0, 9, 12, 19⟩ [] rfl (fun z hz => absurd hz List.not_mem_nil) (by decide) (by decide) cl_L_19 (by decide +kernel) (Or.inl ⟨3, rfl, rfl, rfl⟩) (Nat.le_of_ble_eq_true rfl) d_L_rotate_12 d_L_rotate_13 ci_1 d_L_rotate_14 rfl rfl rfl
abbrev md_L_rotateToLowest : sm_Md := (RL, cL_rotateToLowest, 3, (some .int))
abbrev hh_L_rotateToLowest : List (Nat × Nat × Nat × Nat) := [(0, 8, 11, 25)]
theorem d_L_rotateToLowest_0 : decode cL_rotateToLowest 0 = .ok (.aload_n 1, 1) := by decide +kernel
theorem d_L_rotateToLowest_1 : decode cL_rotateToLowest 1 = .ok (.iconst 0, 1) := by decide +kernel
theorem d_L_rotateToLowest_2 : decode cL_rotateToLowest 2 = .ok (.aload_n 0, 1) := by decide +kernel
theorem d_L_rotateToLowest_3 : decode cL_rotateToLowest 3 = .ok (.invokevirtual 66, 3) := by decide +kernel
theorem d_L_rotateToLowest_6 : decode cL_rotateToLowest 6 = .ok (.i2l, 1) := by decide +kernel
theorem d_L_rotateToLowest_7 : decode cL_rotateToLowest 7 = .ok (.lastore, 1) := by decide +kernel
theorem d_L_rotateToLowest_8 : decode cL_rotateToLowest 8 = .ok (.goto 6, 3) := by decide +kernel
theorem d_L_rotateToLowest_11 : decode cL_rotateToLowest 11 = .ok (.astore_n 2, 1) := by decide +kernel
theorem d_L_rotateToLowest_12 : decode cL_rotateToLowest 12 = .ok (.iconst 1, 1) := by decide +kernel
theorem d_L_rotateToLowest_13 : decode cL_rotateToLowest 13 = .ok (.ireturn, 1) := by decide +kernel
theorem d_L_rotateToLowest_14 : decode cL_rotateToLowest 14 = .ok (.iconst 0, 1) := by decide +kernel
theorem d_L_rotateToLowest_15 : decode cL_rotateToLowest 15 = .ok (.ireturn, 1) := by decide +kernel
theorem lk_L_66 : sm_LV RL 66 yX11_rotateToLowest md_X11_rotateToLowest 0 := ⟨sm_w (List.mem_of_getElem? (i := 940) (by decide +kernel)) rfl, sm_w (List.mem_of_getElem? (i := 941) (by decide +kernel)) rfl, sm_w (List.mem_of_getElem? (i := 942) (by decide +kernel)) rfl, sm_w (List.mem_of_getElem? (i := 59) (by decide +kernel)) rfl, sm_w (List.mem_of_getElem? (i := 943) (by decide +kernel)) rfl, by decide, by decide +kernel⟩
set_option maxRecDepth 100000 in
theorem hR_L_rotateToLowest {sk : List sm_Sh} (hx : sm_ext skX sk) (h2 : sk[102]? = some (.inl (3, 1, []))) {M M1 : sm_M} {v : Int32} (h : sm_Ct yX11_rotateToLowest md_X11_rotateToLowest 7 sk (.ref 0 :: []) M (.inl (some (.int v))) M1) : sm_CtH yL_rotateToLowest md_L_rotateToLowest hh_L_rotateToLowest 8 sk [.ref 0, .ref 102] M 0 (sm_ml M1 102 0 v.toInt64) := by
  refine sm_Henter (ls0 := [some (.ref 0), some (.ref 102), none]) 1 pn_L rfl (Nat.le_of_ble_eq_true rfl) rfl ?_
  refine sm_Haload_n (q := 1) d_L_rotateToLowest_0 rfl rfl ?_
  refine sm_Hiconst (q := 2) d_L_rotateToLowest_1 rfl ci_0 ?_
  refine sm_Haload_n (q := 3) d_L_rotateToLowest_2 rfl rfl ?_
  refine sm_HcallV (q := 6) (d' := 7) [.int 0, .ref 102] [] d_L_rotateToLowest_3 rfl lk_L_66 (hx sx_0) rfl rfl rfl (Nat.le_of_ble_eq_true rfl) (Nat.le_of_ble_eq_true rfl) h (st9 := [.int v, .int 0, .ref 102]) rfl ?_
  refine sm_Hi2l (q := 7) d_L_rotateToLowest_6 rfl ?_
  refine sm_Hlastore (q := 8) d_L_rotateToLowest_7 rfl h2 (sm_ib_of (by decide)) ?_
  refine sm_Hgoto (t := 14) d_L_rotateToLowest_8 rfl rfl ?_
  refine sm_Hiconst (q := 15) d_L_rotateToLowest_14 rfl ci_0 ?_
  exact sm_Hiret d_L_rotateToLowest_15 rfl rfl rfl
set_option maxRecDepth 100000 in
theorem hX1_L_rotateToLowest {sk : List sm_Sh} (hx : sm_ext skX sk) (h2 : sk[102]? = some (.inl (3, 1, []))) {M M1 : sm_M} (h : sm_Ct yX11_rotateToLowest md_X11_rotateToLowest 7 sk (.ref 0 :: []) M (.inr "java/lang/IllegalStateException") M1) : sm_CtH yL_rotateToLowest md_L_rotateToLowest hh_L_rotateToLowest 8 sk [.ref 0, .ref 102] M 1 M1 := by
  refine sm_Henter (ls0 := [some (.ref 0), some (.ref 102), none]) 1 pn_L rfl (Nat.le_of_ble_eq_true rfl) rfl ?_
  refine sm_Haload_n (q := 1) d_L_rotateToLowest_0 rfl rfl ?_
  refine sm_Hiconst (q := 2) d_L_rotateToLowest_1 rfl ci_0 ?_
  refine sm_Haload_n (q := 3) d_L_rotateToLowest_2 rfl rfl ?_
  exact sm_Hcatch (d' := 7) [.int 0, .ref 102] [] d_L_rotateToLowest_3 lk_L_66 (hx sx_0) rfl rfl rfl (Nat.le_of_ble_eq_true rfl) (Nat.le_of_ble_eq_true rfl) h [] ⟨0, 8, 11, 25⟩ [] rfl (fun z hz => absurd hz List.not_mem_nil) (by decide) (by decide) cl_L_25 (by decide +kernel) (Or.inl ⟨2, rfl, rfl, rfl⟩) (Nat.le_of_ble_eq_true rfl) d_L_rotateToLowest_11 d_L_rotateToLowest_12 ci_1 d_L_rotateToLowest_13 rfl rfl rfl
abbrev md_L_exchange : sm_Md := (RL, cL_exchange, 5, (some .int))
abbrev hh_L_exchange : List (Nat × Nat × Nat × Nat) := [(0, 10, 13, 13)]
theorem d_L_exchange_0 : decode cL_exchange 0 = .ok (.aload_n 3, 1) := by decide +kernel
theorem d_L_exchange_1 : decode cL_exchange 1 = .ok (.iconst 0, 1) := by decide +kernel
theorem d_L_exchange_2 : decode cL_exchange 2 = .ok (.aload_n 0, 1) := by decide +kernel
theorem d_L_exchange_3 : decode cL_exchange 3 = .ok (.iload_n 1, 1) := by decide +kernel
theorem d_L_exchange_4 : decode cL_exchange 4 = .ok (.iload_n 2, 1) := by decide +kernel
theorem d_L_exchange_5 : decode cL_exchange 5 = .ok (.invokevirtual 69, 3) := by decide +kernel
theorem d_L_exchange_8 : decode cL_exchange 8 = .ok (.i2l, 1) := by decide +kernel
theorem d_L_exchange_9 : decode cL_exchange 9 = .ok (.lastore, 1) := by decide +kernel
theorem d_L_exchange_10 : decode cL_exchange 10 = .ok (.goto 7, 3) := by decide +kernel
theorem d_L_exchange_13 : decode cL_exchange 13 = .ok (.astore 4, 2) := by decide +kernel
theorem d_L_exchange_15 : decode cL_exchange 15 = .ok (.iconst 1, 1) := by decide +kernel
theorem d_L_exchange_16 : decode cL_exchange 16 = .ok (.ireturn, 1) := by decide +kernel
theorem d_L_exchange_17 : decode cL_exchange 17 = .ok (.iconst 0, 1) := by decide +kernel
theorem d_L_exchange_18 : decode cL_exchange 18 = .ok (.ireturn, 1) := by decide +kernel
theorem lk_L_69 : sm_LV RL 69 yX11_exchange md_X11_exchange 2 := ⟨sm_w (List.mem_of_getElem? (i := 956) (by decide +kernel)) rfl, sm_w (List.mem_of_getElem? (i := 957) (by decide +kernel)) rfl, sm_w (List.mem_of_getElem? (i := 958) (by decide +kernel)) rfl, sm_w (List.mem_of_getElem? (i := 59) (by decide +kernel)) rfl, sm_w (List.mem_of_getElem? (i := 959) (by decide +kernel)) rfl, by decide, by decide +kernel⟩
set_option maxRecDepth 100000 in
theorem hR_L_exchange {sk : List sm_Sh} (hx : sm_ext skX sk) (h2 : sk[102]? = some (.inl (3, 1, []))) (x1 x2 : Int32) {M M1 : sm_M} {v : Int32} (h : sm_Ct yX11_exchange md_X11_exchange 7 sk (.ref 0 :: [.int x1, .int x2]) M (.inl (some (.int v))) M1) : sm_CtH yL_exchange md_L_exchange hh_L_exchange 8 sk [.ref 0, .int x1, .int x2, .ref 102] M 0 (sm_ml M1 102 0 v.toInt64) := by
  refine sm_Henter (ls0 := [some (.ref 0), some (.int x1), some (.int x2), some (.ref 102), none]) 1 pn_L rfl (Nat.le_of_ble_eq_true rfl) rfl ?_
  refine sm_Haload_n (q := 1) d_L_exchange_0 rfl rfl ?_
  refine sm_Hiconst (q := 2) d_L_exchange_1 rfl ci_0 ?_
  refine sm_Haload_n (q := 3) d_L_exchange_2 rfl rfl ?_
  refine sm_Hiload_n (q := 4) d_L_exchange_3 rfl rfl ?_
  refine sm_Hiload_n (q := 5) d_L_exchange_4 rfl rfl ?_
  refine sm_HcallV (q := 8) (d' := 7) [.int 0, .ref 102] [.int x1, .int x2] d_L_exchange_5 rfl lk_L_69 (hx sx_0) rfl rfl rfl (Nat.le_of_ble_eq_true rfl) (Nat.le_of_ble_eq_true rfl) h (st9 := [.int v, .int 0, .ref 102]) rfl ?_
  refine sm_Hi2l (q := 9) d_L_exchange_8 rfl ?_
  refine sm_Hlastore (q := 10) d_L_exchange_9 rfl h2 (sm_ib_of (by decide)) ?_
  refine sm_Hgoto (t := 17) d_L_exchange_10 rfl rfl ?_
  refine sm_Hiconst (q := 18) d_L_exchange_17 rfl ci_0 ?_
  exact sm_Hiret d_L_exchange_18 rfl rfl rfl
set_option maxRecDepth 100000 in
theorem hX1_L_exchange {sk : List sm_Sh} (hx : sm_ext skX sk) (h2 : sk[102]? = some (.inl (3, 1, []))) (x1 x2 : Int32) {M M1 : sm_M} (h : sm_Ct yX11_exchange md_X11_exchange 7 sk (.ref 0 :: [.int x1, .int x2]) M (.inr "java/lang/IllegalArgumentException") M1) : sm_CtH yL_exchange md_L_exchange hh_L_exchange 8 sk [.ref 0, .int x1, .int x2, .ref 102] M 1 M1 := by
  refine sm_Henter (ls0 := [some (.ref 0), some (.int x1), some (.int x2), some (.ref 102), none]) 1 pn_L rfl (Nat.le_of_ble_eq_true rfl) rfl ?_
  refine sm_Haload_n (q := 1) d_L_exchange_0 rfl rfl ?_
  refine sm_Hiconst (q := 2) d_L_exchange_1 rfl ci_0 ?_
  refine sm_Haload_n (q := 3) d_L_exchange_2 rfl rfl ?_
  refine sm_Hiload_n (q := 4) d_L_exchange_3 rfl rfl ?_
  refine sm_Hiload_n (q := 5) d_L_exchange_4 rfl rfl ?_
  exact sm_Hcatch (d' := 7) [.int 0, .ref 102] [.int x1, .int x2] d_L_exchange_5 lk_L_69 (hx sx_0) rfl rfl rfl (Nat.le_of_ble_eq_true rfl) (Nat.le_of_ble_eq_true rfl) h [] ⟨0, 10, 13, 13⟩ [] rfl (fun z hz => absurd hz List.not_mem_nil) (by decide) (by decide) cl_L_13 (by decide +kernel) (Or.inr ⟨rfl, rfl⟩) (Nat.le_of_ble_eq_true rfl) d_L_exchange_13 d_L_exchange_15 ci_1 d_L_exchange_16 rfl rfl rfl
abbrev md_L_search : sm_Md := (RL, cL_search, 4, (some .int))
abbrev hh_L_search : List (Nat × Nat × Nat × Nat) := [(0, 9, 12, 13), (0, 9, 15, 25), (0, 9, 18, 37)]
theorem d_L_search_0 : decode cL_search 0 = .ok (.aload_n 2, 1) := by decide +kernel
theorem d_L_search_1 : decode cL_search 1 = .ok (.iconst 0, 1) := by decide +kernel
theorem d_L_search_2 : decode cL_search 2 = .ok (.aload_n 0, 1) := by decide +kernel
theorem d_L_search_3 : decode cL_search 3 = .ok (.iload_n 1, 1) := by decide +kernel
theorem d_L_search_4 : decode cL_search 4 = .ok (.invokevirtual 72, 3) := by decide +kernel
theorem d_L_search_7 : decode cL_search 7 = .ok (.i2l, 1) := by decide +kernel
theorem d_L_search_8 : decode cL_search 8 = .ok (.lastore, 1) := by decide +kernel
theorem d_L_search_9 : decode cL_search 9 = .ok (.goto 12, 3) := by decide +kernel
theorem d_L_search_12 : decode cL_search 12 = .ok (.astore_n 3, 1) := by decide +kernel
theorem d_L_search_13 : decode cL_search 13 = .ok (.iconst 1, 1) := by decide +kernel
theorem d_L_search_14 : decode cL_search 14 = .ok (.ireturn, 1) := by decide +kernel
theorem d_L_search_15 : decode cL_search 15 = .ok (.astore_n 3, 1) := by decide +kernel
theorem d_L_search_16 : decode cL_search 16 = .ok (.iconst 2, 1) := by decide +kernel
theorem d_L_search_17 : decode cL_search 17 = .ok (.ireturn, 1) := by decide +kernel
theorem d_L_search_18 : decode cL_search 18 = .ok (.astore_n 3, 1) := by decide +kernel
theorem d_L_search_19 : decode cL_search 19 = .ok (.iconst 3, 1) := by decide +kernel
theorem d_L_search_20 : decode cL_search 20 = .ok (.ireturn, 1) := by decide +kernel
theorem d_L_search_21 : decode cL_search 21 = .ok (.iconst 0, 1) := by decide +kernel
theorem d_L_search_22 : decode cL_search 22 = .ok (.ireturn, 1) := by decide +kernel
theorem lk_L_72 : sm_LV RL 72 yX11_search md_X11_search 1 := ⟨sm_w (List.mem_of_getElem? (i := 963) (by decide +kernel)) rfl, sm_w (List.mem_of_getElem? (i := 964) (by decide +kernel)) rfl, sm_w (List.mem_of_getElem? (i := 965) (by decide +kernel)) rfl, sm_w (List.mem_of_getElem? (i := 59) (by decide +kernel)) rfl, sm_w (List.mem_of_getElem? (i := 966) (by decide +kernel)) rfl, by decide, by decide +kernel⟩
set_option maxRecDepth 100000 in
theorem hR_L_search {sk : List sm_Sh} (hx : sm_ext skX sk) (h2 : sk[102]? = some (.inl (3, 1, []))) (x1 : Int32) {M M1 : sm_M} {v : Int32} (h : sm_Ct yX11_search md_X11_search 6 sk (.ref 0 :: [.int x1]) M (.inl (some (.int v))) M1) : sm_CtH yL_search md_L_search hh_L_search 7 sk [.ref 0, .int x1, .ref 102] M 0 (sm_ml M1 102 0 v.toInt64) := by
  refine sm_Henter (ls0 := [some (.ref 0), some (.int x1), some (.ref 102), none]) 1 pn_L rfl (Nat.le_of_ble_eq_true rfl) rfl ?_
  refine sm_Haload_n (q := 1) d_L_search_0 rfl rfl ?_
  refine sm_Hiconst (q := 2) d_L_search_1 rfl ci_0 ?_
  refine sm_Haload_n (q := 3) d_L_search_2 rfl rfl ?_
  refine sm_Hiload_n (q := 4) d_L_search_3 rfl rfl ?_
  refine sm_HcallV (q := 7) (d' := 6) [.int 0, .ref 102] [.int x1] d_L_search_4 rfl lk_L_72 (hx sx_0) rfl rfl rfl (Nat.le_of_ble_eq_true rfl) (Nat.le_of_ble_eq_true rfl) h (st9 := [.int v, .int 0, .ref 102]) rfl ?_
  refine sm_Hi2l (q := 8) d_L_search_7 rfl ?_
  refine sm_Hlastore (q := 9) d_L_search_8 rfl h2 (sm_ib_of (by decide)) ?_
  refine sm_Hgoto (t := 21) d_L_search_9 rfl rfl ?_
  refine sm_Hiconst (q := 22) d_L_search_21 rfl ci_0 ?_
  exact sm_Hiret d_L_search_22 rfl rfl rfl
set_option maxRecDepth 100000 in
theorem hX1_L_search {sk : List sm_Sh} (hx : sm_ext skX sk) (h2 : sk[102]? = some (.inl (3, 1, []))) (x1 : Int32) {M M1 : sm_M} (h : sm_Ct yX11_search md_X11_search 6 sk (.ref 0 :: [.int x1]) M (.inr "java/lang/IllegalArgumentException") M1) : sm_CtH yL_search md_L_search hh_L_search 7 sk [.ref 0, .int x1, .ref 102] M 1 M1 := by
  refine sm_Henter (ls0 := [some (.ref 0), some (.int x1), some (.ref 102), none]) 1 pn_L rfl (Nat.le_of_ble_eq_true rfl) rfl ?_
  refine sm_Haload_n (q := 1) d_L_search_0 rfl rfl ?_
  refine sm_Hiconst (q := 2) d_L_search_1 rfl ci_0 ?_
  refine sm_Haload_n (q := 3) d_L_search_2 rfl rfl ?_
  refine sm_Hiload_n (q := 4) d_L_search_3 rfl rfl ?_
  exact sm_Hcatch (d' := 6) [.int 0, .ref 102] [.int x1] d_L_search_4 lk_L_72 (hx sx_0) rfl rfl rfl (Nat.le_of_ble_eq_true rfl) (Nat.le_of_ble_eq_true rfl) h [] ⟨0, 9, 12, 13⟩ [⟨0, 9, 15, 25⟩, ⟨0, 9, 18, 37⟩] rfl (fun z hz => absurd hz List.not_mem_nil) (by decide) (by decide) cl_L_13 (by decide +kernel) (Or.inl ⟨3, rfl, rfl, rfl⟩) (Nat.le_of_ble_eq_true rfl) d_L_search_12 d_L_search_13 ci_1 d_L_search_14 rfl rfl rfl
set_option maxRecDepth 100000 in
theorem hX2_L_search {sk : List sm_Sh} (hx : sm_ext skX sk) (h2 : sk[102]? = some (.inl (3, 1, []))) (x1 : Int32) {M M1 : sm_M} (h : sm_Ct yX11_search md_X11_search 6 sk (.ref 0 :: [.int x1]) M (.inr "java/lang/IllegalStateException") M1) : sm_CtH yL_search md_L_search hh_L_search 7 sk [.ref 0, .int x1, .ref 102] M 2 M1 := by
  refine sm_Henter (ls0 := [some (.ref 0), some (.int x1), some (.ref 102), none]) 1 pn_L rfl (Nat.le_of_ble_eq_true rfl) rfl ?_
  refine sm_Haload_n (q := 1) d_L_search_0 rfl rfl ?_
  refine sm_Hiconst (q := 2) d_L_search_1 rfl ci_0 ?_
  refine sm_Haload_n (q := 3) d_L_search_2 rfl rfl ?_
  refine sm_Hiload_n (q := 4) d_L_search_3 rfl rfl ?_
  exact sm_Hcatch (d' := 6) [.int 0, .ref 102] [.int x1] d_L_search_4 lk_L_72 (hx sx_0) rfl rfl rfl (Nat.le_of_ble_eq_true rfl) (Nat.le_of_ble_eq_true rfl) h [⟨0, 9, 12, 13⟩] ⟨0, 9, 15, 25⟩ [⟨0, 9, 18, 37⟩] rfl (List.forall_mem_cons.mpr ⟨⟨by decide, _, cl_L_13, by decide +kernel⟩, (fun _ h9 => absurd h9 List.not_mem_nil)⟩) (by decide) (by decide) cl_L_25 (by decide +kernel) (Or.inl ⟨3, rfl, rfl, rfl⟩) (Nat.le_of_ble_eq_true rfl) d_L_search_15 d_L_search_16 ci_2 d_L_search_17 rfl rfl rfl
set_option maxRecDepth 100000 in
theorem hX3_L_search {sk : List sm_Sh} (hx : sm_ext skX sk) (h2 : sk[102]? = some (.inl (3, 1, []))) (x1 : Int32) {M M1 : sm_M} (h : sm_Ct yX11_search md_X11_search 6 sk (.ref 0 :: [.int x1]) M (.inr "java/util/NoSuchElementException") M1) : sm_CtH yL_search md_L_search hh_L_search 7 sk [.ref 0, .int x1, .ref 102] M 3 M1 := by
  refine sm_Henter (ls0 := [some (.ref 0), some (.int x1), some (.ref 102), none]) 1 pn_L rfl (Nat.le_of_ble_eq_true rfl) rfl ?_
  refine sm_Haload_n (q := 1) d_L_search_0 rfl rfl ?_
  refine sm_Hiconst (q := 2) d_L_search_1 rfl ci_0 ?_
  refine sm_Haload_n (q := 3) d_L_search_2 rfl rfl ?_
  refine sm_Hiload_n (q := 4) d_L_search_3 rfl rfl ?_
  exact sm_Hcatch (d' := 6) [.int 0, .ref 102] [.int x1] d_L_search_4 lk_L_72 (hx sx_0) rfl rfl rfl (Nat.le_of_ble_eq_true rfl) (Nat.le_of_ble_eq_true rfl) h [⟨0, 9, 12, 13⟩, ⟨0, 9, 15, 25⟩] ⟨0, 9, 18, 37⟩ [] rfl (List.forall_mem_cons.mpr ⟨⟨by decide, _, cl_L_13, by decide +kernel⟩, (List.forall_mem_cons.mpr ⟨⟨by decide, _, cl_L_25, by decide +kernel⟩, (fun _ h9 => absurd h9 List.not_mem_nil)⟩)⟩) (by decide) (by decide) cl_L_37 (by decide +kernel) (Or.inl ⟨3, rfl, rfl, rfl⟩) (Nat.le_of_ble_eq_true rfl) d_L_search_18 d_L_search_19 ci_3 d_L_search_20 rfl rfl rfl
abbrev md_L_vertexCount : sm_Md := (RL, cL_vertexCount, 3, (some .int))
abbrev hh_L_vertexCount : List (Nat × Nat × Nat × Nat) := [(0, 8, 11, 78)]
theorem d_L_vertexCount_0 : decode cL_vertexCount 0 = .ok (.aload_n 1, 1) := by decide +kernel
theorem d_L_vertexCount_1 : decode cL_vertexCount 1 = .ok (.iconst 0, 1) := by decide +kernel
theorem d_L_vertexCount_2 : decode cL_vertexCount 2 = .ok (.aload_n 0, 1) := by decide +kernel
theorem d_L_vertexCount_3 : decode cL_vertexCount 3 = .ok (.invokevirtual 75, 3) := by decide +kernel
theorem d_L_vertexCount_6 : decode cL_vertexCount 6 = .ok (.i2l, 1) := by decide +kernel
theorem d_L_vertexCount_7 : decode cL_vertexCount 7 = .ok (.lastore, 1) := by decide +kernel
theorem d_L_vertexCount_8 : decode cL_vertexCount 8 = .ok (.goto 6, 3) := by decide +kernel
theorem d_L_vertexCount_11 : decode cL_vertexCount 11 = .ok (.astore_n 2, 1) := by decide +kernel
theorem d_L_vertexCount_12 : decode cL_vertexCount 12 = .ok (.iconst 1, 1) := by decide +kernel
theorem d_L_vertexCount_13 : decode cL_vertexCount 13 = .ok (.ireturn, 1) := by decide +kernel
theorem d_L_vertexCount_14 : decode cL_vertexCount 14 = .ok (.iconst 0, 1) := by decide +kernel
theorem d_L_vertexCount_15 : decode cL_vertexCount 15 = .ok (.ireturn, 1) := by decide +kernel
theorem lk_L_75 : sm_LV RL 75 yX11_vertexCount md_X11_vertexCount 0 := ⟨sm_w (List.mem_of_getElem? (i := 1005) (by decide +kernel)) rfl, sm_w (List.mem_of_getElem? (i := 1006) (by decide +kernel)) rfl, sm_w (List.mem_of_getElem? (i := 1007) (by decide +kernel)) rfl, sm_w (List.mem_of_getElem? (i := 59) (by decide +kernel)) rfl, sm_w (List.mem_of_getElem? (i := 1008) (by decide +kernel)) rfl, by decide, by decide +kernel⟩
set_option maxRecDepth 100000 in
theorem hR_L_vertexCount {sk : List sm_Sh} (hx : sm_ext skX sk) (h2 : sk[102]? = some (.inl (3, 1, []))) {M M1 : sm_M} {v : Int32} (h : sm_Ct yX11_vertexCount md_X11_vertexCount 7 sk (.ref 0 :: []) M (.inl (some (.int v))) M1) : sm_CtH yL_vertexCount md_L_vertexCount hh_L_vertexCount 8 sk [.ref 0, .ref 102] M 0 (sm_ml M1 102 0 v.toInt64) := by
  refine sm_Henter (ls0 := [some (.ref 0), some (.ref 102), none]) 1 pn_L rfl (Nat.le_of_ble_eq_true rfl) rfl ?_
  refine sm_Haload_n (q := 1) d_L_vertexCount_0 rfl rfl ?_
  refine sm_Hiconst (q := 2) d_L_vertexCount_1 rfl ci_0 ?_
  refine sm_Haload_n (q := 3) d_L_vertexCount_2 rfl rfl ?_
  refine sm_HcallV (q := 6) (d' := 7) [.int 0, .ref 102] [] d_L_vertexCount_3 rfl lk_L_75 (hx sx_0) rfl rfl rfl (Nat.le_of_ble_eq_true rfl) (Nat.le_of_ble_eq_true rfl) h (st9 := [.int v, .int 0, .ref 102]) rfl ?_
  refine sm_Hi2l (q := 7) d_L_vertexCount_6 rfl ?_
  refine sm_Hlastore (q := 8) d_L_vertexCount_7 rfl h2 (sm_ib_of (by decide)) ?_
  refine sm_Hgoto (t := 14) d_L_vertexCount_8 rfl rfl ?_
  refine sm_Hiconst (q := 15) d_L_vertexCount_14 rfl ci_0 ?_
  exact sm_Hiret d_L_vertexCount_15 rfl rfl rfl
theorem cl_L_78 : Cond.classLink RL 78 "java/lang/UnsupportedOperationException" ∈ sm_TB := sm_w (List.mem_of_getElem? (i := 1004) (by decide +kernel)) rfl
set_option maxRecDepth 100000 in
theorem hX1_L_vertexCount {sk : List sm_Sh} (hx : sm_ext skX sk) (h2 : sk[102]? = some (.inl (3, 1, []))) {M M1 : sm_M} (h : sm_Ct yX11_vertexCount md_X11_vertexCount 7 sk (.ref 0 :: []) M (.inr "java/lang/UnsupportedOperationException") M1) : sm_CtH yL_vertexCount md_L_vertexCount hh_L_vertexCount 8 sk [.ref 0, .ref 102] M 1 M1 := by
  refine sm_Henter (ls0 := [some (.ref 0), some (.ref 102), none]) 1 pn_L rfl (Nat.le_of_ble_eq_true rfl) rfl ?_
  refine sm_Haload_n (q := 1) d_L_vertexCount_0 rfl rfl ?_
  refine sm_Hiconst (q := 2) d_L_vertexCount_1 rfl ci_0 ?_
  refine sm_Haload_n (q := 3) d_L_vertexCount_2 rfl rfl ?_
  exact sm_Hcatch (d' := 7) [.int 0, .ref 102] [] d_L_vertexCount_3 lk_L_75 (hx sx_0) rfl rfl rfl (Nat.le_of_ble_eq_true rfl) (Nat.le_of_ble_eq_true rfl) h [] ⟨0, 8, 11, 78⟩ [] rfl (fun z hz => absurd hz List.not_mem_nil) (by decide) (by decide) cl_L_78 (by decide +kernel) (Or.inl ⟨2, rfl, rfl, rfl⟩) (Nat.le_of_ble_eq_true rfl) d_L_vertexCount_11 d_L_vertexCount_12 ci_1 d_L_vertexCount_13 rfl rfl rfl
abbrev md_L_edgeEnd : sm_Md := (RL, cL_edgeEnd, 5, (some .int))
abbrev hh_L_edgeEnd : List (Nat × Nat × Nat × Nat) := [(0, 10, 13, 78), (0, 10, 17, 19)]
theorem d_L_edgeEnd_0 : decode cL_edgeEnd 0 = .ok (.aload_n 3, 1) := by decide +kernel
theorem d_L_edgeEnd_1 : decode cL_edgeEnd 1 = .ok (.iconst 0, 1) := by decide +kernel
theorem d_L_edgeEnd_2 : decode cL_edgeEnd 2 = .ok (.aload_n 0, 1) := by decide +kernel
theorem d_L_edgeEnd_3 : decode cL_edgeEnd 3 = .ok (.iload_n 1, 1) := by decide +kernel
theorem d_L_edgeEnd_4 : decode cL_edgeEnd 4 = .ok (.iload_n 2, 1) := by decide +kernel
theorem d_L_edgeEnd_5 : decode cL_edgeEnd 5 = .ok (.invokevirtual 80, 3) := by decide +kernel
theorem d_L_edgeEnd_8 : decode cL_edgeEnd 8 = .ok (.i2l, 1) := by decide +kernel
theorem d_L_edgeEnd_9 : decode cL_edgeEnd 9 = .ok (.lastore, 1) := by decide +kernel
theorem d_L_edgeEnd_10 : decode cL_edgeEnd 10 = .ok (.goto 11, 3) := by decide +kernel
theorem d_L_edgeEnd_13 : decode cL_edgeEnd 13 = .ok (.astore 4, 2) := by decide +kernel
theorem d_L_edgeEnd_15 : decode cL_edgeEnd 15 = .ok (.iconst 1, 1) := by decide +kernel
theorem d_L_edgeEnd_16 : decode cL_edgeEnd 16 = .ok (.ireturn, 1) := by decide +kernel
theorem d_L_edgeEnd_17 : decode cL_edgeEnd 17 = .ok (.astore 4, 2) := by decide +kernel
theorem d_L_edgeEnd_19 : decode cL_edgeEnd 19 = .ok (.iconst 2, 1) := by decide +kernel
theorem d_L_edgeEnd_20 : decode cL_edgeEnd 20 = .ok (.ireturn, 1) := by decide +kernel
theorem d_L_edgeEnd_21 : decode cL_edgeEnd 21 = .ok (.iconst 0, 1) := by decide +kernel
theorem d_L_edgeEnd_22 : decode cL_edgeEnd 22 = .ok (.ireturn, 1) := by decide +kernel
theorem lk_L_80 : sm_LV RL 80 yX11_edgeEnd md_X11_edgeEnd 2 := ⟨sm_w (List.mem_of_getElem? (i := 1032) (by decide +kernel)) rfl, sm_w (List.mem_of_getElem? (i := 1033) (by decide +kernel)) rfl, sm_w (List.mem_of_getElem? (i := 1034) (by decide +kernel)) rfl, sm_w (List.mem_of_getElem? (i := 59) (by decide +kernel)) rfl, sm_w (List.mem_of_getElem? (i := 1035) (by decide +kernel)) rfl, by decide, by decide +kernel⟩
set_option maxRecDepth 100000 in
theorem hR_L_edgeEnd {sk : List sm_Sh} (hx : sm_ext skX sk) (h2 : sk[102]? = some (.inl (3, 1, []))) (x1 x2 : Int32) {M M1 : sm_M} {v : Int32} (h : sm_Ct yX11_edgeEnd md_X11_edgeEnd 7 sk (.ref 0 :: [.int x1, .int x2]) M (.inl (some (.int v))) M1) : sm_CtH yL_edgeEnd md_L_edgeEnd hh_L_edgeEnd 8 sk [.ref 0, .int x1, .int x2, .ref 102] M 0 (sm_ml M1 102 0 v.toInt64) := by
  refine sm_Henter (ls0 := [some (.ref 0), some (.int x1), some (.int x2), some (.ref 102), none]) 1 pn_L rfl (Nat.le_of_ble_eq_true rfl) rfl ?_
  refine sm_Haload_n (q := 1) d_L_edgeEnd_0 rfl rfl ?_
  refine sm_Hiconst (q := 2) d_L_edgeEnd_1 rfl ci_0 ?_
  refine sm_Haload_n (q := 3) d_L_edgeEnd_2 rfl rfl ?_
  refine sm_Hiload_n (q := 4) d_L_edgeEnd_3 rfl rfl ?_
  refine sm_Hiload_n (q := 5) d_L_edgeEnd_4 rfl rfl ?_
  refine sm_HcallV (q := 8) (d' := 7) [.int 0, .ref 102] [.int x1, .int x2] d_L_edgeEnd_5 rfl lk_L_80 (hx sx_0) rfl rfl rfl (Nat.le_of_ble_eq_true rfl) (Nat.le_of_ble_eq_true rfl) h (st9 := [.int v, .int 0, .ref 102]) rfl ?_
  refine sm_Hi2l (q := 9) d_L_edgeEnd_8 rfl ?_
  refine sm_Hlastore (q := 10) d_L_edgeEnd_9 rfl h2 (sm_ib_of (by decide)) ?_
  refine sm_Hgoto (t := 21) d_L_edgeEnd_10 rfl rfl ?_
  refine sm_Hiconst (q := 22) d_L_edgeEnd_21 rfl ci_0 ?_
  exact sm_Hiret d_L_edgeEnd_22 rfl rfl rfl
set_option maxRecDepth 100000 in
theorem hX1_L_edgeEnd {sk : List sm_Sh} (hx : sm_ext skX sk) (h2 : sk[102]? = some (.inl (3, 1, []))) (x1 x2 : Int32) {M M1 : sm_M} (h : sm_Ct yX11_edgeEnd md_X11_edgeEnd 7 sk (.ref 0 :: [.int x1, .int x2]) M (.inr "java/lang/UnsupportedOperationException") M1) : sm_CtH yL_edgeEnd md_L_edgeEnd hh_L_edgeEnd 8 sk [.ref 0, .int x1, .int x2, .ref 102] M 1 M1 := by
  refine sm_Henter (ls0 := [some (.ref 0), some (.int x1), some (.int x2), some (.ref 102), none]) 1 pn_L rfl (Nat.le_of_ble_eq_true rfl) rfl ?_
  refine sm_Haload_n (q := 1) d_L_edgeEnd_0 rfl rfl ?_
  refine sm_Hiconst (q := 2) d_L_edgeEnd_1 rfl ci_0 ?_
  refine sm_Haload_n (q := 3) d_L_edgeEnd_2 rfl rfl ?_
  refine sm_Hiload_n (q := 4) d_L_edgeEnd_3 rfl rfl ?_
  refine sm_Hiload_n (q := 5) d_L_edgeEnd_4 rfl rfl ?_
  exact sm_Hcatch (d' := 7) [.int 0, .ref 102] [.int x1, .int x2] d_L_edgeEnd_5 lk_L_80 (hx sx_0) rfl rfl rfl (Nat.le_of_ble_eq_true rfl) (Nat.le_of_ble_eq_true rfl) h [] ⟨0, 10, 13, 78⟩ [⟨0, 10, 17, 19⟩] rfl (fun z hz => absurd hz List.not_mem_nil) (by decide) (by decide) cl_L_78 (by decide +kernel) (Or.inr ⟨rfl, rfl⟩) (Nat.le_of_ble_eq_true rfl) d_L_edgeEnd_13 d_L_edgeEnd_15 ci_1 d_L_edgeEnd_16 rfl rfl rfl
set_option maxRecDepth 100000 in
theorem hX2_L_edgeEnd {sk : List sm_Sh} (hx : sm_ext skX sk) (h2 : sk[102]? = some (.inl (3, 1, []))) (x1 x2 : Int32) {M M1 : sm_M} (h : sm_Ct yX11_edgeEnd md_X11_edgeEnd 7 sk (.ref 0 :: [.int x1, .int x2]) M (.inr "java/lang/IndexOutOfBoundsException") M1) : sm_CtH yL_edgeEnd md_L_edgeEnd hh_L_edgeEnd 8 sk [.ref 0, .int x1, .int x2, .ref 102] M 2 M1 := by
  refine sm_Henter (ls0 := [some (.ref 0), some (.int x1), some (.int x2), some (.ref 102), none]) 1 pn_L rfl (Nat.le_of_ble_eq_true rfl) rfl ?_
  refine sm_Haload_n (q := 1) d_L_edgeEnd_0 rfl rfl ?_
  refine sm_Hiconst (q := 2) d_L_edgeEnd_1 rfl ci_0 ?_
  refine sm_Haload_n (q := 3) d_L_edgeEnd_2 rfl rfl ?_
  refine sm_Hiload_n (q := 4) d_L_edgeEnd_3 rfl rfl ?_
  refine sm_Hiload_n (q := 5) d_L_edgeEnd_4 rfl rfl ?_
  exact sm_Hcatch (d' := 7) [.int 0, .ref 102] [.int x1, .int x2] d_L_edgeEnd_5 lk_L_80 (hx sx_0) rfl rfl rfl (Nat.le_of_ble_eq_true rfl) (Nat.le_of_ble_eq_true rfl) h [⟨0, 10, 13, 78⟩] ⟨0, 10, 17, 19⟩ [] rfl (List.forall_mem_cons.mpr ⟨⟨by decide, _, cl_L_78, by decide +kernel⟩, (fun _ h9 => absurd h9 List.not_mem_nil)⟩) (by decide) (by decide) cl_L_19 (by decide +kernel) (Or.inr ⟨rfl, rfl⟩) (Nat.le_of_ble_eq_true rfl) d_L_edgeEnd_17 d_L_edgeEnd_19 ci_2 d_L_edgeEnd_20 rfl rfl rfl
abbrev md_L_inDegree : sm_Md := (RL, cL_inDegree, 4, (some .int))
abbrev hh_L_inDegree : List (Nat × Nat × Nat × Nat) := [(0, 9, 12, 78), (0, 9, 15, 19)]
theorem d_L_inDegree_0 : decode cL_inDegree 0 = .ok (.aload_n 2, 1) := by decide +kernel
theorem d_L_inDegree_1 : decode cL_inDegree 1 = .ok (.iconst 0, 1) := by decide +kernel
theorem d_L_inDegree_2 : decode cL_inDegree 2 = .ok (.aload_n 0, 1) := by decide +kernel
theorem d_L_inDegree_3 : decode cL_inDegree 3 = .ok (.iload_n 1, 1) := by decide +kernel
theorem d_L_inDegree_4 : decode cL_inDegree 4 = .ok (.invokevirtual 84, 3) := by decide +kernel
theorem d_L_inDegree_7 : decode cL_inDegree 7 = .ok (.i2l, 1) := by decide +kernel
theorem d_L_inDegree_8 : decode cL_inDegree 8 = .ok (.lastore, 1) := by decide +kernel
theorem d_L_inDegree_9 : decode cL_inDegree 9 = .ok (.goto 9, 3) := by decide +kernel
theorem d_L_inDegree_12 : decode cL_inDegree 12 = .ok (.astore_n 3, 1) := by decide +kernel
theorem d_L_inDegree_13 : decode cL_inDegree 13 = .ok (.iconst 1, 1) := by decide +kernel
theorem d_L_inDegree_14 : decode cL_inDegree 14 = .ok (.ireturn, 1) := by decide +kernel
theorem d_L_inDegree_15 : decode cL_inDegree 15 = .ok (.astore_n 3, 1) := by decide +kernel
theorem d_L_inDegree_16 : decode cL_inDegree 16 = .ok (.iconst 2, 1) := by decide +kernel
theorem d_L_inDegree_17 : decode cL_inDegree 17 = .ok (.ireturn, 1) := by decide +kernel
theorem d_L_inDegree_18 : decode cL_inDegree 18 = .ok (.iconst 0, 1) := by decide +kernel
theorem d_L_inDegree_19 : decode cL_inDegree 19 = .ok (.ireturn, 1) := by decide +kernel
theorem lk_L_84 : sm_LV RL 84 yX11_inDegree md_X11_inDegree 1 := ⟨sm_w (List.mem_of_getElem? (i := 1039) (by decide +kernel)) rfl, sm_w (List.mem_of_getElem? (i := 1040) (by decide +kernel)) rfl, sm_w (List.mem_of_getElem? (i := 1041) (by decide +kernel)) rfl, sm_w (List.mem_of_getElem? (i := 59) (by decide +kernel)) rfl, sm_w (List.mem_of_getElem? (i := 1042) (by decide +kernel)) rfl, by decide, by decide +kernel⟩
set_option maxRecDepth 100000 in
theorem hR_L_inDegree {sk : List sm_Sh} (hx : sm_ext skX sk) (h2 : sk[102]? = some (.inl (3, 1, []))) (x1 : Int32) {M M1 : sm_M} {v : Int32} (h : sm_Ct yX11_inDegree md_X11_inDegree 7 sk (.ref 0 :: [.int x1]) M (.inl (some (.int v))) M1) : sm_CtH yL_inDegree md_L_inDegree hh_L_inDegree 8 sk [.ref 0, .int x1, .ref 102] M 0 (sm_ml M1 102 0 v.toInt64) := by
  refine sm_Henter (ls0 := [some (.ref 0), some (.int x1), some (.ref 102), none]) 1 pn_L rfl (Nat.le_of_ble_eq_true rfl) rfl ?_
  refine sm_Haload_n (q := 1) d_L_inDegree_0 rfl rfl ?_
  refine sm_Hiconst (q := 2) d_L_inDegree_1 rfl ci_0 ?_
  refine sm_Haload_n (q := 3) d_L_inDegree_2 rfl rfl ?_
  refine sm_Hiload_n (q := 4) d_L_inDegree_3 rfl rfl ?_
  refine sm_HcallV (q := 7) (d' := 7) [.int 0, .ref 102] [.int x1] d_L_inDegree_4 rfl lk_L_84 (hx sx_0) rfl rfl rfl (Nat.le_of_ble_eq_true rfl) (Nat.le_of_ble_eq_true rfl) h (st9 := [.int v, .int 0, .ref 102]) rfl ?_
  refine sm_Hi2l (q := 8) d_L_inDegree_7 rfl ?_
  refine sm_Hlastore (q := 9) d_L_inDegree_8 rfl h2 (sm_ib_of (by decide)) ?_
  refine sm_Hgoto (t := 18) d_L_inDegree_9 rfl rfl ?_
  refine sm_Hiconst (q := 19) d_L_inDegree_18 rfl ci_0 ?_
  exact sm_Hiret d_L_inDegree_19 rfl rfl rfl
set_option maxRecDepth 100000 in
theorem hX1_L_inDegree {sk : List sm_Sh} (hx : sm_ext skX sk) (h2 : sk[102]? = some (.inl (3, 1, []))) (x1 : Int32) {M M1 : sm_M} (h : sm_Ct yX11_inDegree md_X11_inDegree 7 sk (.ref 0 :: [.int x1]) M (.inr "java/lang/UnsupportedOperationException") M1) : sm_CtH yL_inDegree md_L_inDegree hh_L_inDegree 8 sk [.ref 0, .int x1, .ref 102] M 1 M1 := by
  refine sm_Henter (ls0 := [some (.ref 0), some (.int x1), some (.ref 102), none]) 1 pn_L rfl (Nat.le_of_ble_eq_true rfl) rfl ?_
  refine sm_Haload_n (q := 1) d_L_inDegree_0 rfl rfl ?_
  refine sm_Hiconst (q := 2) d_L_inDegree_1 rfl ci_0 ?_
  refine sm_Haload_n (q := 3) d_L_inDegree_2 rfl rfl ?_
  refine sm_Hiload_n (q := 4) d_L_inDegree_3 rfl rfl ?_
  exact sm_Hcatch (d' := 7) [.int 0, .ref 102] [.int x1] d_L_inDegree_4 lk_L_84 (hx sx_0) rfl rfl rfl (Nat.le_of_ble_eq_true rfl) (Nat.le_of_ble_eq_true rfl) h [] ⟨0, 9, 12, 78⟩ [⟨0, 9, 15, 19⟩] rfl (fun z hz => absurd hz List.not_mem_nil) (by decide) (by decide) cl_L_78 (by decide +kernel) (Or.inl ⟨3, rfl, rfl, rfl⟩) (Nat.le_of_ble_eq_true rfl) d_L_inDegree_12 d_L_inDegree_13 ci_1 d_L_inDegree_14 rfl rfl rfl
set_option maxRecDepth 100000 in
theorem hX2_L_inDegree {sk : List sm_Sh} (hx : sm_ext skX sk) (h2 : sk[102]? = some (.inl (3, 1, []))) (x1 : Int32) {M M1 : sm_M} (h : sm_Ct yX11_inDegree md_X11_inDegree 7 sk (.ref 0 :: [.int x1]) M (.inr "java/lang/IndexOutOfBoundsException") M1) : sm_CtH yL_inDegree md_L_inDegree hh_L_inDegree 8 sk [.ref 0, .int x1, .ref 102] M 2 M1 := by
  refine sm_Henter (ls0 := [some (.ref 0), some (.int x1), some (.ref 102), none]) 1 pn_L rfl (Nat.le_of_ble_eq_true rfl) rfl ?_
  refine sm_Haload_n (q := 1) d_L_inDegree_0 rfl rfl ?_
  refine sm_Hiconst (q := 2) d_L_inDegree_1 rfl ci_0 ?_
  refine sm_Haload_n (q := 3) d_L_inDegree_2 rfl rfl ?_
  refine sm_Hiload_n (q := 4) d_L_inDegree_3 rfl rfl ?_
  exact sm_Hcatch (d' := 7) [.int 0, .ref 102] [.int x1] d_L_inDegree_4 lk_L_84 (hx sx_0) rfl rfl rfl (Nat.le_of_ble_eq_true rfl) (Nat.le_of_ble_eq_true rfl) h [⟨0, 9, 12, 78⟩] ⟨0, 9, 15, 19⟩ [] rfl (List.forall_mem_cons.mpr ⟨⟨by decide, _, cl_L_78, by decide +kernel⟩, (fun _ h9 => absurd h9 List.not_mem_nil)⟩) (by decide) (by decide) cl_L_19 (by decide +kernel) (Or.inl ⟨3, rfl, rfl, rfl⟩) (Nat.le_of_ble_eq_true rfl) d_L_inDegree_15 d_L_inDegree_16 ci_2 d_L_inDegree_17 rfl rfl rfl
abbrev md_L_distance : sm_Md := (RL, cL_distance, 5, (some .int))
abbrev hh_L_distance : List (Nat × Nat × Nat × Nat) := [(0, 10, 13, 78), (0, 10, 17, 19), (0, 10, 21, 37)]
theorem d_L_distance_0 : decode cL_distance 0 = .ok (.aload_n 3, 1) := by decide +kernel
theorem d_L_distance_1 : decode cL_distance 1 = .ok (.iconst 0, 1) := by decide +kernel
theorem d_L_distance_2 : decode cL_distance 2 = .ok (.aload_n 0, 1) := by decide +kernel
theorem d_L_distance_3 : decode cL_distance 3 = .ok (.iload_n 1, 1) := by decide +kernel
theorem d_L_distance_4 : decode cL_distance 4 = .ok (.iload_n 2, 1) := by decide +kernel
theorem d_L_distance_5 : decode cL_distance 5 = .ok (.invokevirtual 87, 3) := by decide +kernel
theorem d_L_distance_8 : decode cL_distance 8 = .ok (.i2l, 1) := by decide +kernel
theorem d_L_distance_9 : decode cL_distance 9 = .ok (.lastore, 1) := by decide +kernel
theorem d_L_distance_10 : decode cL_distance 10 = .ok (.goto 15, 3) := by decide +kernel
theorem d_L_distance_13 : decode cL_distance 13 = .ok (.astore 4, 2) := by decide +kernel
theorem d_L_distance_15 : decode cL_distance 15 = .ok (.iconst 1, 1) := by decide +kernel
theorem d_L_distance_16 : decode cL_distance 16 = .ok (.ireturn, 1) := by decide +kernel
theorem d_L_distance_17 : decode cL_distance 17 = .ok (.astore 4, 2) := by decide +kernel
theorem d_L_distance_19 : decode cL_distance 19 = .ok (.iconst 2, 1) := by decide +kernel
theorem d_L_distance_20 : decode cL_distance 20 = .ok (.ireturn, 1) := by decide +kernel
theorem d_L_distance_21 : decode cL_distance 21 = .ok (.astore 4, 2) := by decide +kernel
theorem d_L_distance_23 : decode cL_distance 23 = .ok (.iconst 3, 1) := by decide +kernel
theorem d_L_distance_24 : decode cL_distance 24 = .ok (.ireturn, 1) := by decide +kernel
theorem d_L_distance_25 : decode cL_distance 25 = .ok (.iconst 0, 1) := by decide +kernel
theorem d_L_distance_26 : decode cL_distance 26 = .ok (.ireturn, 1) := by decide +kernel
theorem lk_L_87 : sm_LV RL 87 yX11_distance md_X11_distance 2 := ⟨sm_w (List.mem_of_getElem? (i := 1055) (by decide +kernel)) rfl, sm_w (List.mem_of_getElem? (i := 1056) (by decide +kernel)) rfl, sm_w (List.mem_of_getElem? (i := 1057) (by decide +kernel)) rfl, sm_w (List.mem_of_getElem? (i := 59) (by decide +kernel)) rfl, sm_w (List.mem_of_getElem? (i := 1058) (by decide +kernel)) rfl, by decide, by decide +kernel⟩
set_option maxRecDepth 100000 in
theorem hR_L_distance {sk : List sm_Sh} (hx : sm_ext skX sk) (h2 : sk[102]? = some (.inl (3, 1, []))) (x1 x2 : Int32) {M M1 : sm_M} {v : Int32} (h : sm_Ct yX11_distance md_X11_distance 7 sk (.ref 0 :: [.int x1, .int x2]) M (.inl (some (.int v))) M1) : sm_CtH yL_distance md_L_distance hh_L_distance 8 sk [.ref 0, .int x1, .int x2, .ref 102] M 0 (sm_ml M1 102 0 v.toInt64) := by
  refine sm_Henter (ls0 := [some (.ref 0), some (.int x1), some (.int x2), some (.ref 102), none]) 1 pn_L rfl (Nat.le_of_ble_eq_true rfl) rfl ?_
  refine sm_Haload_n (q := 1) d_L_distance_0 rfl rfl ?_
  refine sm_Hiconst (q := 2) d_L_distance_1 rfl ci_0 ?_
  refine sm_Haload_n (q := 3) d_L_distance_2 rfl rfl ?_
  refine sm_Hiload_n (q := 4) d_L_distance_3 rfl rfl ?_
  refine sm_Hiload_n (q := 5) d_L_distance_4 rfl rfl ?_
  refine sm_HcallV (q := 8) (d' := 7) [.int 0, .ref 102] [.int x1, .int x2] d_L_distance_5 rfl lk_L_87 (hx sx_0) rfl rfl rfl (Nat.le_of_ble_eq_true rfl) (Nat.le_of_ble_eq_true rfl) h (st9 := [.int v, .int 0, .ref 102]) rfl ?_
  refine sm_Hi2l (q := 9) d_L_distance_8 rfl ?_
  refine sm_Hlastore (q := 10) d_L_distance_9 rfl h2 (sm_ib_of (by decide)) ?_
  refine sm_Hgoto (t := 25) d_L_distance_10 rfl rfl ?_
  refine sm_Hiconst (q := 26) d_L_distance_25 rfl ci_0 ?_
  exact sm_Hiret d_L_distance_26 rfl rfl rfl
set_option maxRecDepth 100000 in
theorem hX1_L_distance {sk : List sm_Sh} (hx : sm_ext skX sk) (h2 : sk[102]? = some (.inl (3, 1, []))) (x1 x2 : Int32) {M M1 : sm_M} (h : sm_Ct yX11_distance md_X11_distance 7 sk (.ref 0 :: [.int x1, .int x2]) M (.inr "java/lang/UnsupportedOperationException") M1) : sm_CtH yL_distance md_L_distance hh_L_distance 8 sk [.ref 0, .int x1, .int x2, .ref 102] M 1 M1 := by
  refine sm_Henter (ls0 := [some (.ref 0), some (.int x1), some (.int x2), some (.ref 102), none]) 1 pn_L rfl (Nat.le_of_ble_eq_true rfl) rfl ?_
  refine sm_Haload_n (q := 1) d_L_distance_0 rfl rfl ?_
  refine sm_Hiconst (q := 2) d_L_distance_1 rfl ci_0 ?_
  refine sm_Haload_n (q := 3) d_L_distance_2 rfl rfl ?_
  refine sm_Hiload_n (q := 4) d_L_distance_3 rfl rfl ?_
  refine sm_Hiload_n (q := 5) d_L_distance_4 rfl rfl ?_
  exact sm_Hcatch (d' := 7) [.int 0, .ref 102] [.int x1, .int x2] d_L_distance_5 lk_L_87 (hx sx_0) rfl rfl rfl (Nat.le_of_ble_eq_true rfl) (Nat.le_of_ble_eq_true rfl) h [] ⟨0, 10, 13, 78⟩ [⟨0, 10, 17, 19⟩, ⟨0, 10, 21, 37⟩] rfl (fun z hz => absurd hz List.not_mem_nil) (by decide) (by decide) cl_L_78 (by decide +kernel) (Or.inr ⟨rfl, rfl⟩) (Nat.le_of_ble_eq_true rfl) d_L_distance_13 d_L_distance_15 ci_1 d_L_distance_16 rfl rfl rfl
set_option maxRecDepth 100000 in
theorem hX2_L_distance {sk : List sm_Sh} (hx : sm_ext skX sk) (h2 : sk[102]? = some (.inl (3, 1, []))) (x1 x2 : Int32) {M M1 : sm_M} (h : sm_Ct yX11_distance md_X11_distance 7 sk (.ref 0 :: [.int x1, .int x2]) M (.inr "java/lang/IndexOutOfBoundsException") M1) : sm_CtH yL_distance md_L_distance hh_L_distance 8 sk [.ref 0, .int x1, .int x2, .ref 102] M 2 M1 := by
  refine sm_Henter (ls0 := [some (.ref 0), some (.int x1), some (.int x2), some (.ref 102), none]) 1 pn_L rfl (Nat.le_of_ble_eq_true rfl) rfl ?_
  refine sm_Haload_n (q := 1) d_L_distance_0 rfl rfl ?_
  refine sm_Hiconst (q := 2) d_L_distance_1 rfl ci_0 ?_
  refine sm_Haload_n (q := 3) d_L_distance_2 rfl rfl ?_
  refine sm_Hiload_n (q := 4) d_L_distance_3 rfl rfl ?_
  refine sm_Hiload_n (q := 5) d_L_distance_4 rfl rfl ?_
  exact sm_Hcatch (d' := 7) [.int 0, .ref 102] [.int x1, .int x2] d_L_distance_5 lk_L_87 (hx sx_0) rfl rfl rfl (Nat.le_of_ble_eq_true rfl) (Nat.le_of_ble_eq_true rfl) h [⟨0, 10, 13, 78⟩] ⟨0, 10, 17, 19⟩ [⟨0, 10, 21, 37⟩] rfl (List.forall_mem_cons.mpr ⟨⟨by decide, _, cl_L_78, by decide +kernel⟩, (fun _ h9 => absurd h9 List.not_mem_nil)⟩) (by decide) (by decide) cl_L_19 (by decide +kernel) (Or.inr ⟨rfl, rfl⟩) (Nat.le_of_ble_eq_true rfl) d_L_distance_17 d_L_distance_19 ci_2 d_L_distance_20 rfl rfl rfl
set_option maxRecDepth 100000 in
theorem hX3_L_distance {sk : List sm_Sh} (hx : sm_ext skX sk) (h2 : sk[102]? = some (.inl (3, 1, []))) (x1 x2 : Int32) {M M1 : sm_M} (h : sm_Ct yX11_distance md_X11_distance 7 sk (.ref 0 :: [.int x1, .int x2]) M (.inr "java/util/NoSuchElementException") M1) : sm_CtH yL_distance md_L_distance hh_L_distance 8 sk [.ref 0, .int x1, .int x2, .ref 102] M 3 M1 := by
  refine sm_Henter (ls0 := [some (.ref 0), some (.int x1), some (.int x2), some (.ref 102), none]) 1 pn_L rfl (Nat.le_of_ble_eq_true rfl) rfl ?_
  refine sm_Haload_n (q := 1) d_L_distance_0 rfl rfl ?_
  refine sm_Hiconst (q := 2) d_L_distance_1 rfl ci_0 ?_
  refine sm_Haload_n (q := 3) d_L_distance_2 rfl rfl ?_
  refine sm_Hiload_n (q := 4) d_L_distance_3 rfl rfl ?_
  refine sm_Hiload_n (q := 5) d_L_distance_4 rfl rfl ?_
  exact sm_Hcatch (d' := 7) [.int 0, .ref 102] [.int x1, .int x2] d_L_distance_5 lk_L_87 (hx sx_0) rfl rfl rfl (Nat.le_of_ble_eq_true rfl) (Nat.le_of_ble_eq_true rfl) h [⟨0, 10, 13, 78⟩, ⟨0, 10, 17, 19⟩] ⟨0, 10, 21, 37⟩ [] rfl (List.forall_mem_cons.mpr ⟨⟨by decide, _, cl_L_78, by decide +kernel⟩, (List.forall_mem_cons.mpr ⟨⟨by decide, _, cl_L_19, by decide +kernel⟩, (fun _ h9 => absurd h9 List.not_mem_nil)⟩)⟩) (by decide) (by decide) cl_L_37 (by decide +kernel) (Or.inr ⟨rfl, rfl⟩) (Nat.le_of_ble_eq_true rfl) d_L_distance_21 d_L_distance_23 ci_3 d_L_distance_24 rfl rfl rfl
abbrev md_L_componentOf : sm_Md := (RL, cL_componentOf, 4, (some .int))
abbrev hh_L_componentOf : List (Nat × Nat × Nat × Nat) := [(0, 9, 12, 78), (0, 9, 15, 19)]
theorem d_L_componentOf_0 : decode cL_componentOf 0 = .ok (.aload_n 2, 1) := by decide +kernel
theorem d_L_componentOf_1 : decode cL_componentOf 1 = .ok (.iconst 0, 1) := by decide +kernel
theorem d_L_componentOf_2 : decode cL_componentOf 2 = .ok (.aload_n 0, 1) := by decide +kernel
theorem d_L_componentOf_3 : decode cL_componentOf 3 = .ok (.iload_n 1, 1) := by decide +kernel
theorem d_L_componentOf_4 : decode cL_componentOf 4 = .ok (.invokevirtual 90, 3) := by decide +kernel
theorem d_L_componentOf_7 : decode cL_componentOf 7 = .ok (.i2l, 1) := by decide +kernel
theorem d_L_componentOf_8 : decode cL_componentOf 8 = .ok (.lastore, 1) := by decide +kernel
theorem d_L_componentOf_9 : decode cL_componentOf 9 = .ok (.goto 9, 3) := by decide +kernel
theorem d_L_componentOf_12 : decode cL_componentOf 12 = .ok (.astore_n 3, 1) := by decide +kernel
theorem d_L_componentOf_13 : decode cL_componentOf 13 = .ok (.iconst 1, 1) := by decide +kernel
theorem d_L_componentOf_14 : decode cL_componentOf 14 = .ok (.ireturn, 1) := by decide +kernel
theorem d_L_componentOf_15 : decode cL_componentOf 15 = .ok (.astore_n 3, 1) := by decide +kernel
theorem d_L_componentOf_16 : decode cL_componentOf 16 = .ok (.iconst 2, 1) := by decide +kernel
theorem d_L_componentOf_17 : decode cL_componentOf 17 = .ok (.ireturn, 1) := by decide +kernel
theorem d_L_componentOf_18 : decode cL_componentOf 18 = .ok (.iconst 0, 1) := by decide +kernel
theorem d_L_componentOf_19 : decode cL_componentOf 19 = .ok (.ireturn, 1) := by decide +kernel
theorem lk_L_90 : sm_LV RL 90 yX11_componentOf md_X11_componentOf 1 := ⟨sm_w (List.mem_of_getElem? (i := 1072) (by decide +kernel)) rfl, sm_w (List.mem_of_getElem? (i := 1073) (by decide +kernel)) rfl, sm_w (List.mem_of_getElem? (i := 1074) (by decide +kernel)) rfl, sm_w (List.mem_of_getElem? (i := 59) (by decide +kernel)) rfl, sm_w (List.mem_of_getElem? (i := 1075) (by decide +kernel)) rfl, by decide, by decide +kernel⟩
set_option maxRecDepth 100000 in
theorem hR_L_componentOf {sk : List sm_Sh} (hx : sm_ext skX sk) (h2 : sk[102]? = some (.inl (3, 1, []))) (x1 : Int32) {M M1 : sm_M} {v : Int32} (h : sm_Ct yX11_componentOf md_X11_componentOf 7 sk (.ref 0 :: [.int x1]) M (.inl (some (.int v))) M1) : sm_CtH yL_componentOf md_L_componentOf hh_L_componentOf 8 sk [.ref 0, .int x1, .ref 102] M 0 (sm_ml M1 102 0 v.toInt64) := by
  refine sm_Henter (ls0 := [some (.ref 0), some (.int x1), some (.ref 102), none]) 1 pn_L rfl (Nat.le_of_ble_eq_true rfl) rfl ?_
  refine sm_Haload_n (q := 1) d_L_componentOf_0 rfl rfl ?_
  refine sm_Hiconst (q := 2) d_L_componentOf_1 rfl ci_0 ?_
  refine sm_Haload_n (q := 3) d_L_componentOf_2 rfl rfl ?_
  refine sm_Hiload_n (q := 4) d_L_componentOf_3 rfl rfl ?_
  refine sm_HcallV (q := 7) (d' := 7) [.int 0, .ref 102] [.int x1] d_L_componentOf_4 rfl lk_L_90 (hx sx_0) rfl rfl rfl (Nat.le_of_ble_eq_true rfl) (Nat.le_of_ble_eq_true rfl) h (st9 := [.int v, .int 0, .ref 102]) rfl ?_
  refine sm_Hi2l (q := 8) d_L_componentOf_7 rfl ?_
  refine sm_Hlastore (q := 9) d_L_componentOf_8 rfl h2 (sm_ib_of (by decide)) ?_
  refine sm_Hgoto (t := 18) d_L_componentOf_9 rfl rfl ?_
  refine sm_Hiconst (q := 19) d_L_componentOf_18 rfl ci_0 ?_
  exact sm_Hiret d_L_componentOf_19 rfl rfl rfl
set_option maxRecDepth 100000 in
theorem hX1_L_componentOf {sk : List sm_Sh} (hx : sm_ext skX sk) (h2 : sk[102]? = some (.inl (3, 1, []))) (x1 : Int32) {M M1 : sm_M} (h : sm_Ct yX11_componentOf md_X11_componentOf 7 sk (.ref 0 :: [.int x1]) M (.inr "java/lang/UnsupportedOperationException") M1) : sm_CtH yL_componentOf md_L_componentOf hh_L_componentOf 8 sk [.ref 0, .int x1, .ref 102] M 1 M1 := by
  refine sm_Henter (ls0 := [some (.ref 0), some (.int x1), some (.ref 102), none]) 1 pn_L rfl (Nat.le_of_ble_eq_true rfl) rfl ?_
  refine sm_Haload_n (q := 1) d_L_componentOf_0 rfl rfl ?_
  refine sm_Hiconst (q := 2) d_L_componentOf_1 rfl ci_0 ?_
  refine sm_Haload_n (q := 3) d_L_componentOf_2 rfl rfl ?_
  refine sm_Hiload_n (q := 4) d_L_componentOf_3 rfl rfl ?_
  exact sm_Hcatch (d' := 7) [.int 0, .ref 102] [.int x1] d_L_componentOf_4 lk_L_90 (hx sx_0) rfl rfl rfl (Nat.le_of_ble_eq_true rfl) (Nat.le_of_ble_eq_true rfl) h [] ⟨0, 9, 12, 78⟩ [⟨0, 9, 15, 19⟩] rfl (fun z hz => absurd hz List.not_mem_nil) (by decide) (by decide) cl_L_78 (by decide +kernel) (Or.inl ⟨3, rfl, rfl, rfl⟩) (Nat.le_of_ble_eq_true rfl) d_L_componentOf_12 d_L_componentOf_13 ci_1 d_L_componentOf_14 rfl rfl rfl
set_option maxRecDepth 100000 in
theorem hX2_L_componentOf {sk : List sm_Sh} (hx : sm_ext skX sk) (h2 : sk[102]? = some (.inl (3, 1, []))) (x1 : Int32) {M M1 : sm_M} (h : sm_Ct yX11_componentOf md_X11_componentOf 7 sk (.ref 0 :: [.int x1]) M (.inr "java/lang/IndexOutOfBoundsException") M1) : sm_CtH yL_componentOf md_L_componentOf hh_L_componentOf 8 sk [.ref 0, .int x1, .ref 102] M 2 M1 := by
  refine sm_Henter (ls0 := [some (.ref 0), some (.int x1), some (.ref 102), none]) 1 pn_L rfl (Nat.le_of_ble_eq_true rfl) rfl ?_
  refine sm_Haload_n (q := 1) d_L_componentOf_0 rfl rfl ?_
  refine sm_Hiconst (q := 2) d_L_componentOf_1 rfl ci_0 ?_
  refine sm_Haload_n (q := 3) d_L_componentOf_2 rfl rfl ?_
  refine sm_Hiload_n (q := 4) d_L_componentOf_3 rfl rfl ?_
  exact sm_Hcatch (d' := 7) [.int 0, .ref 102] [.int x1] d_L_componentOf_4 lk_L_90 (hx sx_0) rfl rfl rfl (Nat.le_of_ble_eq_true rfl) (Nat.le_of_ble_eq_true rfl) h [⟨0, 9, 12, 78⟩] ⟨0, 9, 15, 19⟩ [] rfl (List.forall_mem_cons.mpr ⟨⟨by decide, _, cl_L_78, by decide +kernel⟩, (fun _ h9 => absurd h9 List.not_mem_nil)⟩) (by decide) (by decide) cl_L_19 (by decide +kernel) (Or.inl ⟨3, rfl, rfl, rfl⟩) (Nat.le_of_ble_eq_true rfl) d_L_componentOf_15 d_L_componentOf_16 ci_2 d_L_componentOf_17 rfl rfl rfl
abbrev md_L_circuitCount : sm_Md := (RL, cL_circuitCount, 3, (some .int))
abbrev hh_L_circuitCount : List (Nat × Nat × Nat × Nat) := [(0, 7, 10, 78), (0, 7, 13, 37), (0, 7, 16, 97)]
theorem d_L_circuitCount_0 : decode cL_circuitCount 0 = .ok (.aload_n 1, 1) := by decide +kernel
theorem d_L_circuitCount_1 : decode cL_circuitCount 1 = .ok (.iconst 0, 1) := by decide +kernel
theorem d_L_circuitCount_2 : decode cL_circuitCount 2 = .ok (.aload_n 0, 1) := by decide +kernel
theorem d_L_circuitCount_3 : decode cL_circuitCount 3 = .ok (.invokevirtual 93, 3) := by decide +kernel
theorem d_L_circuitCount_6 : decode cL_circuitCount 6 = .ok (.lastore, 1) := by decide +kernel
theorem d_L_circuitCount_7 : decode cL_circuitCount 7 = .ok (.goto 12, 3) := by decide +kernel
theorem d_L_circuitCount_10 : decode cL_circuitCount 10 = .ok (.astore_n 2, 1) := by decide +kernel
theorem d_L_circuitCount_11 : decode cL_circuitCount 11 = .ok (.iconst 1, 1) := by decide +kernel
theorem d_L_circuitCount_12 : decode cL_circuitCount 12 = .ok (.ireturn, 1) := by decide +kernel
theorem d_L_circuitCount_13 : decode cL_circuitCount 13 = .ok (.astore_n 2, 1) := by decide +kernel
theorem d_L_circuitCount_14 : decode cL_circuitCount 14 = .ok (.iconst 2, 1) := by decide +kernel
theorem d_L_circuitCount_15 : decode cL_circuitCount 15 = .ok (.ireturn, 1) := by decide +kernel
theorem d_L_circuitCount_16 : decode cL_circuitCount 16 = .ok (.astore_n 2, 1) := by decide +kernel
theorem d_L_circuitCount_17 : decode cL_circuitCount 17 = .ok (.iconst 3, 1) := by decide +kernel
theorem d_L_circuitCount_18 : decode cL_circuitCount 18 = .ok (.ireturn, 1) := by decide +kernel
theorem d_L_circuitCount_19 : decode cL_circuitCount 19 = .ok (.iconst 0, 1) := by decide +kernel
theorem d_L_circuitCount_20 : decode cL_circuitCount 20 = .ok (.ireturn, 1) := by decide +kernel
theorem lk_L_93 : sm_LV RL 93 yX11_circuitCount md_X11_circuitCount 0 := ⟨sm_w (List.mem_of_getElem? (i := 1097) (by decide +kernel)) rfl, sm_w (List.mem_of_getElem? (i := 1098) (by decide +kernel)) rfl, sm_w (List.mem_of_getElem? (i := 1099) (by decide +kernel)) rfl, sm_w (List.mem_of_getElem? (i := 59) (by decide +kernel)) rfl, sm_w (List.mem_of_getElem? (i := 1100) (by decide +kernel)) rfl, by decide, by decide +kernel⟩
set_option maxRecDepth 100000 in
theorem hR_L_circuitCount {sk : List sm_Sh} (hx : sm_ext skX sk) (h2 : sk[102]? = some (.inl (3, 1, []))) {M M1 : sm_M} {v : Int64} (h : sm_Ct yX11_circuitCount md_X11_circuitCount 7 sk (.ref 0 :: []) M (.inl (some (.long v))) M1) : sm_CtH yL_circuitCount md_L_circuitCount hh_L_circuitCount 8 sk [.ref 0, .ref 102] M 0 (sm_ml M1 102 0 v) := by
  refine sm_Henter (ls0 := [some (.ref 0), some (.ref 102), none]) 1 pn_L rfl (Nat.le_of_ble_eq_true rfl) rfl ?_
  refine sm_Haload_n (q := 1) d_L_circuitCount_0 rfl rfl ?_
  refine sm_Hiconst (q := 2) d_L_circuitCount_1 rfl ci_0 ?_
  refine sm_Haload_n (q := 3) d_L_circuitCount_2 rfl rfl ?_
  refine sm_HcallV (q := 6) (d' := 7) [.int 0, .ref 102] [] d_L_circuitCount_3 rfl lk_L_93 (hx sx_0) rfl rfl rfl (Nat.le_of_ble_eq_true rfl) (Nat.le_of_ble_eq_true rfl) h (st9 := [.long v, .int 0, .ref 102]) rfl ?_
  refine sm_Hlastore (q := 7) d_L_circuitCount_6 rfl h2 (sm_ib_of (by decide)) ?_
  refine sm_Hgoto (t := 19) d_L_circuitCount_7 rfl rfl ?_
  refine sm_Hiconst (q := 20) d_L_circuitCount_19 rfl ci_0 ?_
  exact sm_Hiret d_L_circuitCount_20 rfl rfl rfl
set_option maxRecDepth 100000 in
theorem hX1_L_circuitCount {sk : List sm_Sh} (hx : sm_ext skX sk) (h2 : sk[102]? = some (.inl (3, 1, []))) {M M1 : sm_M} (h : sm_Ct yX11_circuitCount md_X11_circuitCount 7 sk (.ref 0 :: []) M (.inr "java/lang/UnsupportedOperationException") M1) : sm_CtH yL_circuitCount md_L_circuitCount hh_L_circuitCount 8 sk [.ref 0, .ref 102] M 1 M1 := by
  refine sm_Henter (ls0 := [some (.ref 0), some (.ref 102), none]) 1 pn_L rfl (Nat.le_of_ble_eq_true rfl) rfl ?_
  refine sm_Haload_n (q := 1) d_L_circuitCount_0 rfl rfl ?_
  refine sm_Hiconst (q := 2) d_L_circuitCount_1 rfl ci_0 ?_
  refine sm_Haload_n (q := 3) d_L_circuitCount_2 rfl rfl ?_
  exact sm_Hcatch (d' := 7) [.int 0, .ref 102] [] d_L_circuitCount_3 lk_L_93 (hx sx_0) rfl rfl rfl (Nat.le_of_ble_eq_true rfl) (Nat.le_of_ble_eq_true rfl) h [] ⟨0, 7, 10, 78⟩ [⟨0, 7, 13, 37⟩, ⟨0, 7, 16, 97⟩] rfl (fun z hz => absurd hz List.not_mem_nil) (by decide) (by decide) cl_L_78 (by decide +kernel) (Or.inl ⟨2, rfl, rfl, rfl⟩) (Nat.le_of_ble_eq_true rfl) d_L_circuitCount_10 d_L_circuitCount_11 ci_1 d_L_circuitCount_12 rfl rfl rfl
set_option maxRecDepth 100000 in
theorem hX2_L_circuitCount {sk : List sm_Sh} (hx : sm_ext skX sk) (h2 : sk[102]? = some (.inl (3, 1, []))) {M M1 : sm_M} (h : sm_Ct yX11_circuitCount md_X11_circuitCount 7 sk (.ref 0 :: []) M (.inr "java/util/NoSuchElementException") M1) : sm_CtH yL_circuitCount md_L_circuitCount hh_L_circuitCount 8 sk [.ref 0, .ref 102] M 2 M1 := by
  refine sm_Henter (ls0 := [some (.ref 0), some (.ref 102), none]) 1 pn_L rfl (Nat.le_of_ble_eq_true rfl) rfl ?_
  refine sm_Haload_n (q := 1) d_L_circuitCount_0 rfl rfl ?_
  refine sm_Hiconst (q := 2) d_L_circuitCount_1 rfl ci_0 ?_
  refine sm_Haload_n (q := 3) d_L_circuitCount_2 rfl rfl ?_
  exact sm_Hcatch (d' := 7) [.int 0, .ref 102] [] d_L_circuitCount_3 lk_L_93 (hx sx_0) rfl rfl rfl (Nat.le_of_ble_eq_true rfl) (Nat.le_of_ble_eq_true rfl) h [⟨0, 7, 10, 78⟩] ⟨0, 7, 13, 37⟩ [⟨0, 7, 16, 97⟩] rfl (List.forall_mem_cons.mpr ⟨⟨by decide, _, cl_L_78, by decide +kernel⟩, (fun _ h9 => absurd h9 List.not_mem_nil)⟩) (by decide) (by decide) cl_L_37 (by decide +kernel) (Or.inl ⟨2, rfl, rfl, rfl⟩) (Nat.le_of_ble_eq_true rfl) d_L_circuitCount_13 d_L_circuitCount_14 ci_2 d_L_circuitCount_15 rfl rfl rfl
theorem cl_L_97 : Cond.classLink RL 97 "java/lang/ArithmeticException" ∈ sm_TB := sm_w (List.mem_of_getElem? (i := 1083) (by decide +kernel)) rfl
set_option maxRecDepth 100000 in
theorem hX3_L_circuitCount {sk : List sm_Sh} (hx : sm_ext skX sk) (h2 : sk[102]? = some (.inl (3, 1, []))) {M M1 : sm_M} (h : sm_Ct yX11_circuitCount md_X11_circuitCount 7 sk (.ref 0 :: []) M (.inr "java/lang/ArithmeticException") M1) : sm_CtH yL_circuitCount md_L_circuitCount hh_L_circuitCount 8 sk [.ref 0, .ref 102] M 3 M1 := by
  refine sm_Henter (ls0 := [some (.ref 0), some (.ref 102), none]) 1 pn_L rfl (Nat.le_of_ble_eq_true rfl) rfl ?_
  refine sm_Haload_n (q := 1) d_L_circuitCount_0 rfl rfl ?_
  refine sm_Hiconst (q := 2) d_L_circuitCount_1 rfl ci_0 ?_
  refine sm_Haload_n (q := 3) d_L_circuitCount_2 rfl rfl ?_
  exact sm_Hcatch (d' := 7) [.int 0, .ref 102] [] d_L_circuitCount_3 lk_L_93 (hx sx_0) rfl rfl rfl (Nat.le_of_ble_eq_true rfl) (Nat.le_of_ble_eq_true rfl) h [⟨0, 7, 10, 78⟩, ⟨0, 7, 13, 37⟩] ⟨0, 7, 16, 97⟩ [] rfl (List.forall_mem_cons.mpr ⟨⟨by decide, _, cl_L_78, by decide +kernel⟩, (List.forall_mem_cons.mpr ⟨⟨by decide, _, cl_L_37, by decide +kernel⟩, (fun _ h9 => absurd h9 List.not_mem_nil)⟩)⟩) (by decide) (by decide) cl_L_97 (by decide +kernel) (Or.inl ⟨2, rfl, rfl, rfl⟩) (Nat.le_of_ble_eq_true rfl) d_L_circuitCount_16 d_L_circuitCount_17 ci_3 d_L_circuitCount_18 rfl rfl rfl
abbrev md_L_circuitEdge : sm_Md := (RL, cL_circuitEdge, 4, (some .int))
abbrev hh_L_circuitEdge : List (Nat × Nat × Nat × Nat) := [(0, 9, 12, 78), (0, 9, 15, 37), (0, 9, 18, 19)]
theorem d_L_circuitEdge_0 : decode cL_circuitEdge 0 = .ok (.aload_n 2, 1) := by decide +kernel
theorem d_L_circuitEdge_1 : decode cL_circuitEdge 1 = .ok (.iconst 0, 1) := by decide +kernel
theorem d_L_circuitEdge_2 : decode cL_circuitEdge 2 = .ok (.aload_n 0, 1) := by decide +kernel
theorem d_L_circuitEdge_3 : decode cL_circuitEdge 3 = .ok (.iload_n 1, 1) := by decide +kernel
theorem d_L_circuitEdge_4 : decode cL_circuitEdge 4 = .ok (.invokevirtual 99, 3) := by decide +kernel
theorem d_L_circuitEdge_7 : decode cL_circuitEdge 7 = .ok (.i2l, 1) := by decide +kernel
theorem d_L_circuitEdge_8 : decode cL_circuitEdge 8 = .ok (.lastore, 1) := by decide +kernel
theorem d_L_circuitEdge_9 : decode cL_circuitEdge 9 = .ok (.goto 12, 3) := by decide +kernel
theorem d_L_circuitEdge_12 : decode cL_circuitEdge 12 = .ok (.astore_n 3, 1) := by decide +kernel
theorem d_L_circuitEdge_13 : decode cL_circuitEdge 13 = .ok (.iconst 1, 1) := by decide +kernel
theorem d_L_circuitEdge_14 : decode cL_circuitEdge 14 = .ok (.ireturn, 1) := by decide +kernel
theorem d_L_circuitEdge_15 : decode cL_circuitEdge 15 = .ok (.astore_n 3, 1) := by decide +kernel
theorem d_L_circuitEdge_16 : decode cL_circuitEdge 16 = .ok (.iconst 2, 1) := by decide +kernel
theorem d_L_circuitEdge_17 : decode cL_circuitEdge 17 = .ok (.ireturn, 1) := by decide +kernel
theorem d_L_circuitEdge_18 : decode cL_circuitEdge 18 = .ok (.astore_n 3, 1) := by decide +kernel
theorem d_L_circuitEdge_19 : decode cL_circuitEdge 19 = .ok (.iconst 3, 1) := by decide +kernel
theorem d_L_circuitEdge_20 : decode cL_circuitEdge 20 = .ok (.ireturn, 1) := by decide +kernel
theorem d_L_circuitEdge_21 : decode cL_circuitEdge 21 = .ok (.iconst 0, 1) := by decide +kernel
theorem d_L_circuitEdge_22 : decode cL_circuitEdge 22 = .ok (.ireturn, 1) := by decide +kernel
theorem lk_L_99 : sm_LV RL 99 yX11_circuitEdge md_X11_circuitEdge 1 := ⟨sm_w (List.mem_of_getElem? (i := 1133) (by decide +kernel)) rfl, sm_w (List.mem_of_getElem? (i := 1134) (by decide +kernel)) rfl, sm_w (List.mem_of_getElem? (i := 1135) (by decide +kernel)) rfl, sm_w (List.mem_of_getElem? (i := 59) (by decide +kernel)) rfl, sm_w (List.mem_of_getElem? (i := 1136) (by decide +kernel)) rfl, by decide, by decide +kernel⟩
set_option maxRecDepth 100000 in
theorem hR_L_circuitEdge {sk : List sm_Sh} (hx : sm_ext skX sk) (h2 : sk[102]? = some (.inl (3, 1, []))) (x1 : Int32) {M M1 : sm_M} {v : Int32} (h : sm_Ct yX11_circuitEdge md_X11_circuitEdge 7 sk (.ref 0 :: [.int x1]) M (.inl (some (.int v))) M1) : sm_CtH yL_circuitEdge md_L_circuitEdge hh_L_circuitEdge 8 sk [.ref 0, .int x1, .ref 102] M 0 (sm_ml M1 102 0 v.toInt64) := by
  refine sm_Henter (ls0 := [some (.ref 0), some (.int x1), some (.ref 102), none]) 1 pn_L rfl (Nat.le_of_ble_eq_true rfl) rfl ?_
  refine sm_Haload_n (q := 1) d_L_circuitEdge_0 rfl rfl ?_
  refine sm_Hiconst (q := 2) d_L_circuitEdge_1 rfl ci_0 ?_
  refine sm_Haload_n (q := 3) d_L_circuitEdge_2 rfl rfl ?_
  refine sm_Hiload_n (q := 4) d_L_circuitEdge_3 rfl rfl ?_
  refine sm_HcallV (q := 7) (d' := 7) [.int 0, .ref 102] [.int x1] d_L_circuitEdge_4 rfl lk_L_99 (hx sx_0) rfl rfl rfl (Nat.le_of_ble_eq_true rfl) (Nat.le_of_ble_eq_true rfl) h (st9 := [.int v, .int 0, .ref 102]) rfl ?_
  refine sm_Hi2l (q := 8) d_L_circuitEdge_7 rfl ?_
  refine sm_Hlastore (q := 9) d_L_circuitEdge_8 rfl h2 (sm_ib_of (by decide)) ?_
  refine sm_Hgoto (t := 21) d_L_circuitEdge_9 rfl rfl ?_
  refine sm_Hiconst (q := 22) d_L_circuitEdge_21 rfl ci_0 ?_
  exact sm_Hiret d_L_circuitEdge_22 rfl rfl rfl
set_option maxRecDepth 100000 in
theorem hX1_L_circuitEdge {sk : List sm_Sh} (hx : sm_ext skX sk) (h2 : sk[102]? = some (.inl (3, 1, []))) (x1 : Int32) {M M1 : sm_M} (h : sm_Ct yX11_circuitEdge md_X11_circuitEdge 7 sk (.ref 0 :: [.int x1]) M (.inr "java/lang/UnsupportedOperationException") M1) : sm_CtH yL_circuitEdge md_L_circuitEdge hh_L_circuitEdge 8 sk [.ref 0, .int x1, .ref 102] M 1 M1 := by
  refine sm_Henter (ls0 := [some (.ref 0), some (.int x1), some (.ref 102), none]) 1 pn_L rfl (Nat.le_of_ble_eq_true rfl) rfl ?_
  refine sm_Haload_n (q := 1) d_L_circuitEdge_0 rfl rfl ?_
  refine sm_Hiconst (q := 2) d_L_circuitEdge_1 rfl ci_0 ?_
  refine sm_Haload_n (q := 3) d_L_circuitEdge_2 rfl rfl ?_
  refine sm_Hiload_n (q := 4) d_L_circuitEdge_3 rfl rfl ?_
  exact sm_Hcatch (d' := 7) [.int 0, .ref 102] [.int x1] d_L_circuitEdge_4 lk_L_99 (hx sx_0) rfl rfl rfl (Nat.le_of_ble_eq_true rfl) (Nat.le_of_ble_eq_true rfl) h [] ⟨0, 9, 12, 78⟩ [⟨0, 9, 15, 37⟩, ⟨0, 9, 18, 19⟩] rfl (fun z hz => absurd hz List.not_mem_nil) (by decide) (by decide) cl_L_78 (by decide +kernel) (Or.inl ⟨3, rfl, rfl, rfl⟩) (Nat.le_of_ble_eq_true rfl) d_L_circuitEdge_12 d_L_circuitEdge_13 ci_1 d_L_circuitEdge_14 rfl rfl rfl
set_option maxRecDepth 100000 in
theorem hX2_L_circuitEdge {sk : List sm_Sh} (hx : sm_ext skX sk) (h2 : sk[102]? = some (.inl (3, 1, []))) (x1 : Int32) {M M1 : sm_M} (h : sm_Ct yX11_circuitEdge md_X11_circuitEdge 7 sk (.ref 0 :: [.int x1]) M (.inr "java/util/NoSuchElementException") M1) : sm_CtH yL_circuitEdge md_L_circuitEdge hh_L_circuitEdge 8 sk [.ref 0, .int x1, .ref 102] M 2 M1 := by
  refine sm_Henter (ls0 := [some (.ref 0), some (.int x1), some (.ref 102), none]) 1 pn_L rfl (Nat.le_of_ble_eq_true rfl) rfl ?_
  refine sm_Haload_n (q := 1) d_L_circuitEdge_0 rfl rfl ?_
  refine sm_Hiconst (q := 2) d_L_circuitEdge_1 rfl ci_0 ?_
  refine sm_Haload_n (q := 3) d_L_circuitEdge_2 rfl rfl ?_
  refine sm_Hiload_n (q := 4) d_L_circuitEdge_3 rfl rfl ?_
  exact sm_Hcatch (d' := 7) [.int 0, .ref 102] [.int x1] d_L_circuitEdge_4 lk_L_99 (hx sx_0) rfl rfl rfl (Nat.le_of_ble_eq_true rfl) (Nat.le_of_ble_eq_true rfl) h [⟨0, 9, 12, 78⟩] ⟨0, 9, 15, 37⟩ [⟨0, 9, 18, 19⟩] rfl (List.forall_mem_cons.mpr ⟨⟨by decide, _, cl_L_78, by decide +kernel⟩, (fun _ h9 => absurd h9 List.not_mem_nil)⟩) (by decide) (by decide) cl_L_37 (by decide +kernel) (Or.inl ⟨3, rfl, rfl, rfl⟩) (Nat.le_of_ble_eq_true rfl) d_L_circuitEdge_15 d_L_circuitEdge_16 ci_2 d_L_circuitEdge_17 rfl rfl rfl
set_option maxRecDepth 100000 in
theorem hX3_L_circuitEdge {sk : List sm_Sh} (hx : sm_ext skX sk) (h2 : sk[102]? = some (.inl (3, 1, []))) (x1 : Int32) {M M1 : sm_M} (h : sm_Ct yX11_circuitEdge md_X11_circuitEdge 7 sk (.ref 0 :: [.int x1]) M (.inr "java/lang/IndexOutOfBoundsException") M1) : sm_CtH yL_circuitEdge md_L_circuitEdge hh_L_circuitEdge 8 sk [.ref 0, .int x1, .ref 102] M 3 M1 := by
  refine sm_Henter (ls0 := [some (.ref 0), some (.int x1), some (.ref 102), none]) 1 pn_L rfl (Nat.le_of_ble_eq_true rfl) rfl ?_
  refine sm_Haload_n (q := 1) d_L_circuitEdge_0 rfl rfl ?_
  refine sm_Hiconst (q := 2) d_L_circuitEdge_1 rfl ci_0 ?_
  refine sm_Haload_n (q := 3) d_L_circuitEdge_2 rfl rfl ?_
  refine sm_Hiload_n (q := 4) d_L_circuitEdge_3 rfl rfl ?_
  exact sm_Hcatch (d' := 7) [.int 0, .ref 102] [.int x1] d_L_circuitEdge_4 lk_L_99 (hx sx_0) rfl rfl rfl (Nat.le_of_ble_eq_true rfl) (Nat.le_of_ble_eq_true rfl) h [⟨0, 9, 12, 78⟩, ⟨0, 9, 15, 37⟩] ⟨0, 9, 18, 19⟩ [] rfl (List.forall_mem_cons.mpr ⟨⟨by decide, _, cl_L_78, by decide +kernel⟩, (List.forall_mem_cons.mpr ⟨⟨by decide, _, cl_L_37, by decide +kernel⟩, (fun _ h9 => absurd h9 List.not_mem_nil)⟩)⟩) (by decide) (by decide) cl_L_19 (by decide +kernel) (Or.inl ⟨3, rfl, rfl, rfl⟩) (Nat.le_of_ble_eq_true rfl) d_L_circuitEdge_18 d_L_circuitEdge_19 ci_3 d_L_circuitEdge_20 rfl rfl rfl
abbrev md_L_useCircuit : sm_Md := (RL, cL_useCircuit, 3, (some .int))
abbrev hh_L_useCircuit : List (Nat × Nat × Nat × Nat) := [(0, 8, 11, 78), (0, 8, 14, 37)]
theorem d_L_useCircuit_0 : decode cL_useCircuit 0 = .ok (.aload_n 1, 1) := by decide +kernel
theorem d_L_useCircuit_1 : decode cL_useCircuit 1 = .ok (.iconst 0, 1) := by decide +kernel
theorem d_L_useCircuit_2 : decode cL_useCircuit 2 = .ok (.aload_n 0, 1) := by decide +kernel
theorem d_L_useCircuit_3 : decode cL_useCircuit 3 = .ok (.invokevirtual 102, 3) := by decide +kernel
theorem d_L_useCircuit_6 : decode cL_useCircuit 6 = .ok (.i2l, 1) := by decide +kernel
theorem d_L_useCircuit_7 : decode cL_useCircuit 7 = .ok (.lastore, 1) := by decide +kernel
theorem d_L_useCircuit_8 : decode cL_useCircuit 8 = .ok (.goto 9, 3) := by decide +kernel
theorem d_L_useCircuit_11 : decode cL_useCircuit 11 = .ok (.astore_n 2, 1) := by decide +kernel
theorem d_L_useCircuit_12 : decode cL_useCircuit 12 = .ok (.iconst 1, 1) := by decide +kernel
theorem d_L_useCircuit_13 : decode cL_useCircuit 13 = .ok (.ireturn, 1) := by decide +kernel
theorem d_L_useCircuit_14 : decode cL_useCircuit 14 = .ok (.astore_n 2, 1) := by decide +kernel
theorem d_L_useCircuit_15 : decode cL_useCircuit 15 = .ok (.iconst 2, 1) := by decide +kernel
theorem d_L_useCircuit_16 : decode cL_useCircuit 16 = .ok (.ireturn, 1) := by decide +kernel
theorem d_L_useCircuit_17 : decode cL_useCircuit 17 = .ok (.iconst 0, 1) := by decide +kernel
theorem d_L_useCircuit_18 : decode cL_useCircuit 18 = .ok (.ireturn, 1) := by decide +kernel
theorem lk_L_102 : sm_LV RL 102 yX11_useCircuit md_X11_useCircuit 0 := ⟨sm_w (List.mem_of_getElem? (i := 1140) (by decide +kernel)) rfl, sm_w (List.mem_of_getElem? (i := 1141) (by decide +kernel)) rfl, sm_w (List.mem_of_getElem? (i := 1142) (by decide +kernel)) rfl, sm_w (List.mem_of_getElem? (i := 59) (by decide +kernel)) rfl, sm_w (List.mem_of_getElem? (i := 1143) (by decide +kernel)) rfl, by decide, by decide +kernel⟩
set_option maxRecDepth 100000 in
theorem hR_L_useCircuit {sk : List sm_Sh} (hx : sm_ext skX sk) (h2 : sk[102]? = some (.inl (3, 1, []))) {M M1 : sm_M} {v : Int32} (h : sm_Ct yX11_useCircuit md_X11_useCircuit 7 sk (.ref 0 :: []) M (.inl (some (.int v))) M1) : sm_CtH yL_useCircuit md_L_useCircuit hh_L_useCircuit 8 sk [.ref 0, .ref 102] M 0 (sm_ml M1 102 0 v.toInt64) := by
  refine sm_Henter (ls0 := [some (.ref 0), some (.ref 102), none]) 1 pn_L rfl (Nat.le_of_ble_eq_true rfl) rfl ?_
  refine sm_Haload_n (q := 1) d_L_useCircuit_0 rfl rfl ?_
  refine sm_Hiconst (q := 2) d_L_useCircuit_1 rfl ci_0 ?_
  refine sm_Haload_n (q := 3) d_L_useCircuit_2 rfl rfl ?_
  refine sm_HcallV (q := 6) (d' := 7) [.int 0, .ref 102] [] d_L_useCircuit_3 rfl lk_L_102 (hx sx_0) rfl rfl rfl (Nat.le_of_ble_eq_true rfl) (Nat.le_of_ble_eq_true rfl) h (st9 := [.int v, .int 0, .ref 102]) rfl ?_
  refine sm_Hi2l (q := 7) d_L_useCircuit_6 rfl ?_
  refine sm_Hlastore (q := 8) d_L_useCircuit_7 rfl h2 (sm_ib_of (by decide)) ?_
  refine sm_Hgoto (t := 17) d_L_useCircuit_8 rfl rfl ?_
  refine sm_Hiconst (q := 18) d_L_useCircuit_17 rfl ci_0 ?_
  exact sm_Hiret d_L_useCircuit_18 rfl rfl rfl
set_option maxRecDepth 100000 in
theorem hX1_L_useCircuit {sk : List sm_Sh} (hx : sm_ext skX sk) (h2 : sk[102]? = some (.inl (3, 1, []))) {M M1 : sm_M} (h : sm_Ct yX11_useCircuit md_X11_useCircuit 7 sk (.ref 0 :: []) M (.inr "java/lang/UnsupportedOperationException") M1) : sm_CtH yL_useCircuit md_L_useCircuit hh_L_useCircuit 8 sk [.ref 0, .ref 102] M 1 M1 := by
  refine sm_Henter (ls0 := [some (.ref 0), some (.ref 102), none]) 1 pn_L rfl (Nat.le_of_ble_eq_true rfl) rfl ?_
  refine sm_Haload_n (q := 1) d_L_useCircuit_0 rfl rfl ?_
  refine sm_Hiconst (q := 2) d_L_useCircuit_1 rfl ci_0 ?_
  refine sm_Haload_n (q := 3) d_L_useCircuit_2 rfl rfl ?_
  exact sm_Hcatch (d' := 7) [.int 0, .ref 102] [] d_L_useCircuit_3 lk_L_102 (hx sx_0) rfl rfl rfl (Nat.le_of_ble_eq_true rfl) (Nat.le_of_ble_eq_true rfl) h [] ⟨0, 8, 11, 78⟩ [⟨0, 8, 14, 37⟩] rfl (fun z hz => absurd hz List.not_mem_nil) (by decide) (by decide) cl_L_78 (by decide +kernel) (Or.inl ⟨2, rfl, rfl, rfl⟩) (Nat.le_of_ble_eq_true rfl) d_L_useCircuit_11 d_L_useCircuit_12 ci_1 d_L_useCircuit_13 rfl rfl rfl
set_option maxRecDepth 100000 in
theorem hX2_L_useCircuit {sk : List sm_Sh} (hx : sm_ext skX sk) (h2 : sk[102]? = some (.inl (3, 1, []))) {M M1 : sm_M} (h : sm_Ct yX11_useCircuit md_X11_useCircuit 7 sk (.ref 0 :: []) M (.inr "java/util/NoSuchElementException") M1) : sm_CtH yL_useCircuit md_L_useCircuit hh_L_useCircuit 8 sk [.ref 0, .ref 102] M 2 M1 := by
  refine sm_Henter (ls0 := [some (.ref 0), some (.ref 102), none]) 1 pn_L rfl (Nat.le_of_ble_eq_true rfl) rfl ?_
  refine sm_Haload_n (q := 1) d_L_useCircuit_0 rfl rfl ?_
  refine sm_Hiconst (q := 2) d_L_useCircuit_1 rfl ci_0 ?_
  refine sm_Haload_n (q := 3) d_L_useCircuit_2 rfl rfl ?_
  exact sm_Hcatch (d' := 7) [.int 0, .ref 102] [] d_L_useCircuit_3 lk_L_102 (hx sx_0) rfl rfl rfl (Nat.le_of_ble_eq_true rfl) (Nat.le_of_ble_eq_true rfl) h [⟨0, 8, 11, 78⟩] ⟨0, 8, 14, 37⟩ [] rfl (List.forall_mem_cons.mpr ⟨⟨by decide, _, cl_L_78, by decide +kernel⟩, (fun _ h9 => absurd h9 List.not_mem_nil)⟩) (by decide) (by decide) cl_L_37 (by decide +kernel) (Or.inl ⟨2, rfl, rfl, rfl⟩) (Nat.le_of_ble_eq_true rfl) d_L_useCircuit_14 d_L_useCircuit_15 ci_2 d_L_useCircuit_16 rfl rfl rfl
abbrev md_L_restore : sm_Md := (RL, cL_restore, 3, (some .int))
abbrev hh_L_restore : List (Nat × Nat × Nat × Nat) := [(0, 8, 11, 25)]
theorem d_L_restore_0 : decode cL_restore 0 = .ok (.aload_n 1, 1) := by decide +kernel
theorem d_L_restore_1 : decode cL_restore 1 = .ok (.iconst 0, 1) := by decide +kernel
theorem d_L_restore_2 : decode cL_restore 2 = .ok (.aload_n 0, 1) := by decide +kernel
theorem d_L_restore_3 : decode cL_restore 3 = .ok (.invokevirtual 105, 3) := by decide +kernel
theorem d_L_restore_6 : decode cL_restore 6 = .ok (.i2l, 1) := by decide +kernel
theorem d_L_restore_7 : decode cL_restore 7 = .ok (.lastore, 1) := by decide +kernel
theorem d_L_restore_8 : decode cL_restore 8 = .ok (.goto 6, 3) := by decide +kernel
theorem d_L_restore_11 : decode cL_restore 11 = .ok (.astore_n 2, 1) := by decide +kernel
theorem d_L_restore_12 : decode cL_restore 12 = .ok (.iconst 1, 1) := by decide +kernel
theorem d_L_restore_13 : decode cL_restore 13 = .ok (.ireturn, 1) := by decide +kernel
theorem d_L_restore_14 : decode cL_restore 14 = .ok (.iconst 0, 1) := by decide +kernel
theorem d_L_restore_15 : decode cL_restore 15 = .ok (.ireturn, 1) := by decide +kernel
theorem lk_L_105 : sm_LV RL 105 yX11_restore md_X11_restore 0 := ⟨sm_w (List.mem_of_getElem? (i := 1167) (by decide +kernel)) rfl, sm_w (List.mem_of_getElem? (i := 1168) (by decide +kernel)) rfl, sm_w (List.mem_of_getElem? (i := 1169) (by decide +kernel)) rfl, sm_w (List.mem_of_getElem? (i := 59) (by decide +kernel)) rfl, sm_w (List.mem_of_getElem? (i := 1170) (by decide +kernel)) rfl, by decide, by decide +kernel⟩
set_option maxRecDepth 100000 in
theorem hR_L_restore {sk : List sm_Sh} (hx : sm_ext skX sk) (h2 : sk[102]? = some (.inl (3, 1, []))) {M M1 : sm_M} {v : Int32} (h : sm_Ct yX11_restore md_X11_restore 6 sk (.ref 0 :: []) M (.inl (some (.int v))) M1) : sm_CtH yL_restore md_L_restore hh_L_restore 7 sk [.ref 0, .ref 102] M 0 (sm_ml M1 102 0 v.toInt64) := by
  refine sm_Henter (ls0 := [some (.ref 0), some (.ref 102), none]) 1 pn_L rfl (Nat.le_of_ble_eq_true rfl) rfl ?_
  refine sm_Haload_n (q := 1) d_L_restore_0 rfl rfl ?_
  refine sm_Hiconst (q := 2) d_L_restore_1 rfl ci_0 ?_
  refine sm_Haload_n (q := 3) d_L_restore_2 rfl rfl ?_
  refine sm_HcallV (q := 6) (d' := 6) [.int 0, .ref 102] [] d_L_restore_3 rfl lk_L_105 (hx sx_0) rfl rfl rfl (Nat.le_of_ble_eq_true rfl) (Nat.le_of_ble_eq_true rfl) h (st9 := [.int v, .int 0, .ref 102]) rfl ?_
  refine sm_Hi2l (q := 7) d_L_restore_6 rfl ?_
  refine sm_Hlastore (q := 8) d_L_restore_7 rfl h2 (sm_ib_of (by decide)) ?_
  refine sm_Hgoto (t := 14) d_L_restore_8 rfl rfl ?_
  refine sm_Hiconst (q := 15) d_L_restore_14 rfl ci_0 ?_
  exact sm_Hiret d_L_restore_15 rfl rfl rfl
set_option maxRecDepth 100000 in
theorem hX1_L_restore {sk : List sm_Sh} (hx : sm_ext skX sk) (h2 : sk[102]? = some (.inl (3, 1, []))) {M M1 : sm_M} (h : sm_Ct yX11_restore md_X11_restore 6 sk (.ref 0 :: []) M (.inr "java/lang/IllegalStateException") M1) : sm_CtH yL_restore md_L_restore hh_L_restore 7 sk [.ref 0, .ref 102] M 1 M1 := by
  refine sm_Henter (ls0 := [some (.ref 0), some (.ref 102), none]) 1 pn_L rfl (Nat.le_of_ble_eq_true rfl) rfl ?_
  refine sm_Haload_n (q := 1) d_L_restore_0 rfl rfl ?_
  refine sm_Hiconst (q := 2) d_L_restore_1 rfl ci_0 ?_
  refine sm_Haload_n (q := 3) d_L_restore_2 rfl rfl ?_
  exact sm_Hcatch (d' := 6) [.int 0, .ref 102] [] d_L_restore_3 lk_L_105 (hx sx_0) rfl rfl rfl (Nat.le_of_ble_eq_true rfl) (Nat.le_of_ble_eq_true rfl) h [] ⟨0, 8, 11, 25⟩ [] rfl (fun z hz => absurd hz List.not_mem_nil) (by decide) (by decide) cl_L_25 (by decide +kernel) (Or.inl ⟨2, rfl, rfl, rfl⟩) (Nat.le_of_ble_eq_true rfl) d_L_restore_11 d_L_restore_12 ci_1 d_L_restore_13 rfl rfl rfl
