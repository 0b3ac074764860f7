/-! ===== the law's first rows: the class, the reference, the long[1] ===== -/
def le_J (L : Nat) (xs : Nat → Int32) (pc : Nat) (ls : List (Option Value)) (st : List Value) (dh : List nm_E) (nc ns : Nat) : Prop :=
  ∀ (p : Program) (l : Launch) (e : Env) (s : State) (m : MethodId) (below : List Frame) (meth : Method) (c : Code) (D : va_G) (b : Nat) (cA : Nat → ClassId),
    lj_Cx L xs p l s m meth c D b cA → ∀ (H : Heap) (locs : List Loc) (la : Array Slot), va_P D sm_cl (nm_ws s.heap.size cA dh) H → va_S (fun q => s.heap.size ≤ q) s.heap H locs → lv_has la 8 (sm_lv (lj_ad s.heap.size b) ls) →
    W p l e room_1 s m #[Value.ref b] below meth c H locs nc ns (lw_Z below #[Value.ref b] s) (F0 m pc la (st.map (sm_cv (lj_ad s.heap.size b))))
theorem le_size {p : Program} {l : Launch} {e : Env} {s : State} {m : MethodId} {below : List Frame} {meth : Method} {c : Code} {T : State} {H : Heap} {locs : List Loc} {nc ns b : Nat} {D : va_G} {cA : Nat → ClassId} {dh : List nm_E}
    (X : Stand p l e room_1 s m #[Value.ref b] below meth c T locs nc ns) (hT : T.heap = H) (hn : dh.length = nc) (hP : va_P D sm_cl (nm_ws s.heap.size cA dh) H) (hS : va_S (fun q => s.heap.size ≤ q) s.heap H locs) : H.size = s.heap.size + nc := by
  by_cases h : 0 < nc
  · exact nm_size (n0 := 0) X hT rfl hn (by omega) h hP
  · have h1 : T.heap.size ≤ s.heap.size + nc := X.same.2.2.1
    have h2 := hS.1
    rw [hT] at h1
    omega
theorem le_szW {p : Program} {l : Launch} {e : Env} {s : State} {m : MethodId} {below : List Frame} {meth : Method} {c : Code} {H : Heap} {locs : List Loc} {nc ns b : Nat} {Q : State → Prop} {f : JFrame} {D : va_G} {cA : Nat → ClassId} {dh : List nm_E}
    (hn : dh.length = nc) (hP : va_P D sm_cl (nm_ws s.heap.size cA dh) H) (hS : va_S (fun q => s.heap.size ≤ q) s.heap H locs) (kk : H.size = s.heap.size + nc → W p l e room_1 s m #[Value.ref b] below meth c H locs nc ns Q f) : W p l e room_1 s m #[Value.ref b] below meth c H locs nc ns Q f :=
  fun T hT X => kk (le_size X hT hn hP hS) T hT X
theorem le_new {L : Nat} {xs : Nat → Int32} {pc q i ci nc ns N : Nat} {ls : List (Option Value)} {st : List Value} {dh : List nm_E} (fs : List Value) (hd : decode code pc = .ok (.new i, 3)) (hq : pc + 3 = q) (LN : nm_LN RL i ci) (hN : ∀ r, sm_cl[ci]? = some r → r.2.2 = N) (hfs : ∀ j, j < N → defaultValue (sm_tyf ci j) = vp_V fs j) (hcv : ∀ ad, fs.map (sm_cv ad) = fs) (hn : dh.length = nc) (hc1 : nc + 1 ≤ 603072) (hs1 : ns + N ≤ 7166058) (hn3 : nc < 103)
    (k : ∀ d1, d1 = dh ++ [.inr (ci, fs)] → le_J L xs q ls (.ref nc :: st) d1 (nc + 1) (ns + N)) : le_J L xs pc ls st dh nc ns := by
  subst hq
  intro p l e s m below meth c D b cA C H locs la hP hS hL
  obtain ⟨hst, hx, hb, hr, hml, hown, hts, hlk, hX, hbB, hK⟩ := id C
  obtain ⟨⟨C0, T0, N0⟩, hc, w1, w2, w3⟩ := LN
  have hN0 : N0 = N := hN _ hc
  subst hN0
  have hKn := hK.1.1 ci _ hc
  refine le_szW hn hP hS (fun hz => ?_)
  refine W.newcK (h := s.heap.size + nc) (n := N0) hx hb hown (hts _ w1) (hts _ w2) (hts _ w3) rfl hd hc1 hs1 hKn.2.1 hz (fun H1 kC hkC e1 z1 o1 => ?_)
  have hk : ∀ (k : Nat) (x : Nat × va_E), (nm_ws s.heap.size cA dh)[k]? = some x → H1[x.1]? = H[x.1]? := fun k x hx => o1 x.1 (by rw [← hz]; exact (hP k x hx).lt)
  have hS1 : va_S (fun q => s.heap.size ≤ q) s.heap H1 locs := ⟨Nat.le_trans hS.1 (by omega), fun x h1 h2 => (o1 x (by have := hS.1; omega)).trans (hS.2.1 x h1 h2), hS.2.2⟩
  have hPn : va_P D sm_cl (nm_ws s.heap.size cA (dh ++ [.inr (ci, fs)])) H1 := by
    rw [nm_push, hn]
    refine (hP.kept hk).app (fun k x hx => ?_)
    have hz9 : k < 1 := (List.getElem?_eq_some_iff.mp hx).1
    rw [show k = 0 by omega] at hx
    cases hx
    refine ⟨_, hc, ?_⟩
    show t_OB _ _ _ _ _ (vp_V (fs.map (sm_cv (fun a => s.heap.size + a))))
    rw [hcv]
    exact (u_born (sm_tyf ci) hts (sm_in hc) hKn hkC e1 (sm_ty_ok hc)).to hfs
  have := k _ rfl p l e s m below meth c D b cA C H1 locs la hPn hS1 hL
  rw [List.map_cons, show sm_cv (lj_ad s.heap.size b) (.ref nc) = .ref (s.heap.size + nc) from congrArg Value.ref (lj_adl hn3)] at this
  exact this
theorem le_dup {L : Nat} {xs : Nat → Int32} {pc q nc ns : Nat} {ls : List (Option Value)} {st : List Value} {dh : List nm_E} {v : Value} (hd : decode code pc = .ok (.dup, 1)) (hq : pc + 1 = q) (hv : v.category = 1)
    (k : le_J L xs q ls (v :: v :: st) dh nc ns) : le_J L xs pc ls (v :: st) dh nc ns := by
  subst hq
  intro p l e s m below meth c D b cA C H locs la hP hS hL
  obtain ⟨hst, hx, hb, hr, hml, hown, hts, hlk, hX, hbB, hK⟩ := id C
  exact lv_dup hx hb hd (by rw [sm_cat]; exact hv) (k p l e s m below meth c D b cA C H locs la hP hS hL)
theorem le_iconst {L : Nat} {xs : Nat → Int32} {pc q nc ns : Nat} {ls : List (Option Value)} {st : List Value} {dh : List nm_E} {n : Int} {v : Int32} (hd : decode code pc = .ok (.iconst n, 1)) (hq : pc + 1 = q) (hv : Int32.ofInt n = v)
    (k : le_J L xs q ls (.int v :: st) dh nc ns) : le_J L xs pc ls st dh nc ns := by
  subst hq
  intro p l e s m below meth c D b cA C H locs la hP hS hL
  obtain ⟨hst, hx, hb, hr, hml, hown, hts, hlk, hX, hbB, hK⟩ := id C
  exact lv_iconst hx hb hd hv (k p l e s m below meth c D b cA C H locs la hP hS hL)
theorem le_astore {L : Nat} {xs : Nat → Int32} {pc q nc ns x : Nat} {ls lt : List (Option Value)} {st : List Value} {dh : List nm_E} {n : Fin 4} (hd : decode code pc = .ok (.astore_n n, 1)) (hq : pc + 1 = q) (ho : sm_ok1 ls (n : Nat) = true) (hl9 : ls.set (n : Nat) (some (.ref x)) = lt)
    (k : le_J L xs q lt st dh nc ns) : le_J L xs pc ls (.ref x :: st) dh nc ns := by
  subst hq
  intro p l e s m below meth c D b cA C H locs la hP hS hL
  obtain ⟨hst, hx, hb, hr, hml, hown, hts, hlk, hX, hbB, hK⟩ := id C
  subst hl9
  exact lv_astore_n hx hb hd rfl hL (by omega) rfl (fun la' hL' => k p l e s m below meth c D b cA C H locs la' hP hS (sm_lvst1 (v := .ref x) ho rfl hL'))
theorem le_newl {L : Nat} {xs : Nat → Int32} {pc q nc ns N : Nat} {x : Int32} {ls : List (Option Value)} {st : List Value} {dh : List nm_E} (hd : decode code pc = .ok (.newarray .long, 2)) (hq : pc + 2 = q) (hx0 : ¬ x < 0) (hxN : x.toNatClampNeg = N) (hN : N ≤ 40000) (hn : dh.length = nc) (hc1 : nc + 1 ≤ 603072) (hs1 : ns + N ≤ 7166058) (hn3 : nc < 103)
    (k : ∀ d1, d1 = dh ++ [.inl (3, N, fun _ => 0, fun _ => 0, [])] → le_J L xs q ls (.ref nc :: st) d1 (nc + 1) (ns + N)) : le_J L xs pc ls (.int x :: st) dh nc ns := by
  subst hq
  intro p l e s m below meth c D b cA C H locs la hP hS hL
  obtain ⟨hst, hx, hb, hr, hml, hown, hts, hlk, hX, hbB, hK⟩ := id C
  have hcb : N * componentBytes (newarray.typeOf .long) ≤ 536870912 := by
    have h8 : componentBytes (newarray.typeOf .long) ≤ 8 := by decide
    have := Nat.mul_le_mul hN h8
    omega
  refine le_szW hn hP hS (fun hz => ?_)
  refine va_newaK (h := s.heap.size + nc) hx hb (hts _ ac_3) rfl hd rfl hx0 hxN hcb hc1 hs1 hz (fun H1 c9 e1 z1 o1 hAr hNm => ?_)
  have hk9 : ∀ (k : Nat) (x : Nat × va_E), (nm_ws s.heap.size cA dh)[k]? = some x → H1[x.1]? = H[x.1]? := fun k x hx => o1 x.1 (by rw [← hz]; exact (hP k x hx).lt)
  have hS1 : va_S (fun q => s.heap.size ≤ q) s.heap H1 locs := ⟨Nat.le_trans hS.1 (by omega), fun x h1 h2 => (o1 x (by have := hS.1; omega)).trans (hS.2.1 x h1 h2), hS.2.2⟩
  have hPn : va_P D sm_cl (nm_ws s.heap.size cA (dh ++ [.inl (3, N, fun _ => 0, fun _ => 0, [])])) H1 := by
    rw [nm_push, hn]
    refine (hP.kept hk9).app (fun k x hx => ?_)
    have hz9 : k < 1 := (List.getElem?_eq_some_iff.mp hx).1
    rw [show k = 0 by omega] at hx
    cases hx
    have hc9 : c9 = cA 3 := Option.some.inj (hNm.symm.trans (hK.1.2 3 _ rfl).2)
    rw [hc9] at e1
    exact e1
  have := k _ rfl p l e s m below meth c D b cA C H1 locs la hPn hS1 hL
  rw [List.map_cons, show sm_cv (lj_ad s.heap.size b) (.ref nc) = .ref (s.heap.size + nc) from congrArg Value.ref (lj_adl hn3)] at this
  exact this
theorem le_callI {L : Nat} {xs : Nat → Int32} {pc q i a d' mc' ms' nc ns : Nat} {ls : List (Option Value)} {st : List Value} {dh d9 : List nm_E} {y : MethodName} {md : sm_Md} (hd : decode code pc = .ok (.invokespecial i, 3)) (hq : pc + 3 = q) (hl : Cond.methodLink RL i y ∈ sm_TB) (LI : nm_LI y md) (hw : (st.map fun v => v.category).sum ≤ 8) (hdd : d' ≤ 100) (hn : dh.length = nc) (hc1 : nc + mc' ≤ 603072) (hs1 : ns + ms' ≤ 7166058) (ha : a < 103)
    (h : nm_Ct y md d' mc' ms' [.ref a] dh d9) (k : ∀ d1, d1 = d9 → le_J L xs q ls st d1 (nc + mc') (ns + ms')) : le_J L xs pc ls (.ref a :: st) dh nc ns := by
  subst hq
  intro p l e s m below meth c D b cA C H locs la hP hS hL
  obtain ⟨hst, hx, hb, hr, hml, hown, hts, hlk, hX, hbB, hK⟩ := id C
  obtain ⟨w2, w4, w5, hmx, hret, hy1, hnm⟩ := LI
  have h6 : ((st.map (sm_cv (lj_ad s.heap.size b))).map fun v => v.category).sum ≤ 8 := by
    rw [List.map_map]
    simpa [Function.comp_def, sm_cat] using hw
  intro T hT X
  have hz := le_size X hT hn hP hS
  have hM := h l D s.heap.size cA hst
  rw [hret] at hM w5
  have pre : PreS s H (nm_Pc D s.heap.size cA [.ref a] dh) (.ref (s.heap.size + a) :: []) := ⟨nm_blind, fun U hU hW => ⟨rfl, by rw [hU, hz, hn], by rw [hU]; exact hP, hK.go hS hU hW⟩⟩
  have hR1 : (nm_rm d' mc' ms').frames + 1 ≤ room_1.frames := by show d' + 1 ≤ 2048; omega
  have hR2 : 8 + (md.2.2.1 + 11) + (nm_rm d' mc' ms').locals ≤ room_1.locals := by show 8 + (md.2.2.1 + 11) + 64 * d' ≤ 94400; omega
  have hrun : va_Run p l e room_1 s m #[Value.ref b] below meth c H locs nc ns mc' ms' (F0 m pc la (.ref (s.heap.size + a) :: st.map (sm_cv (lj_ad s.heap.size b)))) (st.map (sm_cv (lj_ad s.heap.size b))) (nm_Qc D s.heap.size cA d9 (Value.ref (s.heap.size + a) :: []).toArray) (fun q => s.heap.size ≤ q) :=
    va_runI (As := []) (Ts := sm_TB) ⟨hx, hb, hml, hown, hts⟩ hM ⟨callB_of 0 hts (sm_good w5 rfl (fun _ h => h)) rfl rfl rfl (hts _ w4) (hts _ hl) hnm ⟨hR1, hR2⟩, hy1, hts _ w2⟩ pre rfl rfl hL.1 rfl (lv_room h6) hd ⟨hc1, hs1⟩
  rw [show (Value.ref a :: st).map (sm_cv (lj_ad s.heap.size b)) = .ref (s.heap.size + a) :: st.map (sm_cv (lj_ad s.heap.size b)) from congrArg (fun z => Value.ref z :: st.map (sm_cv (lj_ad s.heap.size b))) (lj_adl ha)]
  obtain ⟨v', st₀, t, T', Lc, g0, X', hLl, e1, e2, ⟨⟨hv1, hP1⟩, hF⟩, stp⟩ := hrun T hT X
  cases hv1
  obtain ⟨k1, k2, k3⟩ := vx_keep g0 e1 hS (fun q _ h => h) (fun q h => h) hLl hF
  obtain ⟨t2, a1, b1⟩ := k _ rfl p l e s m below meth c D b cA C T'.heap (locs ++ Lc) la (by rw [e1]; exact hP1) k3 hL T' rfl X'
  exact ⟨t2, stp t2 a1, b1⟩
