/-! ===== whole_start ===== -/
def le_in (sh : sm_Sh) : Bool := match sh with
  | .inl (_, _, rs) => rs.all (fun r => decide (r < 103))
  | .inr (_, fs) => fs.all (fun f => match f with | none => true | some r => decide (r < 103))
theorem le_sk : skL.all le_in = true := by decide +kernel
theorem le_cell {ad ad' : Nat → Nat} {cA : Nat → ClassId} {M : sm_M} {a : Nat} {sh : sm_Sh} (h : le_in sh = true) (he : ∀ r, r < 103 → ad r = ad' r) : sm_cell ad cA M a sh = sm_cell ad' cA M a sh := by
  match sh, h with
  | .inl (k, n, rs), h =>
    have hr : ∀ r ∈ rs, r < 103 := fun r hr => of_decide_eq_true (List.all_eq_true.mp h r hr)
    have hf : (fun i : Nat => (rs[i]?).map ad) = fun i => (rs[i]?).map ad' := by
      funext i
      cases hi : rs[i]? with
      | none => rfl
      | some r => exact congrArg some (he r (hr r (List.mem_of_getElem? hi)))
    show Sum.inl (cA k, n, sm_arr ad M a k rs) = Sum.inl (cA k, n, sm_arr ad' M a k rs)
    unfold sm_arr
    rw [hf]
  | .inr (ci, fs), h =>
    show Sum.inr (ci, fs.mapIdx (sm_fv ad M a)) = Sum.inr (ci, fs.mapIdx (sm_fv ad' M a))
    have hf : fs.mapIdx (sm_fv ad M a) = fs.mapIdx (sm_fv ad' M a) := by
      apply List.ext_getElem?
      intro i
      rw [List.getElem?_mapIdx, List.getElem?_mapIdx]
      cases hi : fs[i]? with
      | none => rfl
      | some f =>
        cases f with
        | none => rfl
        | some r =>
          have := List.all_eq_true.mp h (some r) (List.mem_of_getElem? hi)
          exact congrArg (fun z => some (Value.ref z)) (he r (of_decide_eq_true this))
    rw [hf]
theorem le_ws {B b : Nat} {cA : Nat → ClassId} {M : sm_M} : sm_ws (fun a => B + a) cA skL M = sm_ws (lj_ad B b) cA skL M := by
  unfold sm_ws
  apply List.ext_getElem?
  intro i
  rw [List.getElem?_mapIdx, List.getElem?_mapIdx]
  cases hi : skL[i]? with
  | none => rfl
  | some sh =>
    have hl : i < 103 := (List.getElem?_eq_some_iff.mp hi).1
    have hs := List.all_eq_true.mp le_sk sh (List.mem_of_getElem? hi)
    show some (B + i, sm_cell (fun a => B + a) cA M i sh) = some (lj_ad B b i, sm_cell (lj_ad B b) cA M i sh)
    rw [lj_adl hl, le_cell hs (fun r hr => (lj_adl hr).symm)]
theorem le_toJ {L : Nat} {xs : Nat → Int32} {pc nc ns : Nat} {ls : List (Option Value)} {st : List Value} {M : sm_M} (k : lj_J L xs pc ls st M nc ns) : le_J L xs pc ls st (nm_dy skL M) nc ns := by
  intro p l e s m below meth c D b cA C H locs la hP hS hL
  rw [nm_dyw, le_ws (b := b)] at hP
  exact k p l e s m below meth c D b cA C H locs la hP hS hL
theorem le_dyL {M : sm_M} (h1 : M.1 102 = fun _ => 0) (h2 : M.2 102 = fun _ => 0) : nm_dy skM M ++ [.inl (3, 1, fun _ => 0, fun _ => 0, [])] = nm_dy skL M := by
  have hX : skM.length = 102 := rfl
  unfold nm_dy skL
  rw [List.mapIdx_append, hX]
  simp [nm_dc, h1, h2]
theorem li_11 : nm_LI yX11_init md_X11_init := ⟨sm_w (List.mem_of_getElem? (i := 90) (by decide +kernel)) rfl, sm_w (List.mem_of_getElem? (i := 59) (by decide +kernel)) rfl, sm_w (List.mem_of_getElem? (i := 91) (by decide +kernel)) rfl, by decide, rfl, rfl, by decide +kernel⟩
theorem li_12 : nm_LI yX12_init md_X12_init := ⟨sm_w (List.mem_of_getElem? (i := 1179) (by decide +kernel)) rfl, sm_w (List.mem_of_getElem? (i := 75) (by decide +kernel)) rfl, sm_w (List.mem_of_getElem? (i := 1180) (by decide +kernel)) rfl, by decide, rfl, rfl, by decide +kernel⟩
theorem ln_11 : nm_LN RL 8 11 := ⟨_, rfl, sm_w (List.mem_of_getElem? (i := 87) (by decide +kernel)) rfl, sm_w (List.mem_of_getElem? (i := 88) (by decide +kernel)) rfl, sm_w (List.mem_of_getElem? (i := 59) (by decide +kernel)) rfl⟩
theorem ln_12 : nm_LN RL 109 12 := ⟨_, rfl, sm_w (List.mem_of_getElem? (i := 1176) (by decide +kernel)) rfl, sm_w (List.mem_of_getElem? (i := 1177) (by decide +kernel)) rfl, sm_w (List.mem_of_getElem? (i := 75) (by decide +kernel)) rfl⟩
theorem lk_11 : Cond.methodLink RL 108 yX11_init ∈ sm_TB := sm_w (List.mem_of_getElem? (i := 89) (by decide +kernel)) rfl
theorem lk_12 : Cond.methodLink RL 111 yX12_init ∈ sm_TB := sm_w (List.mem_of_getElem? (i := 1178) (by decide +kernel)) rfl
theorem le_s20 {L : Nat} {xs : Nat → Int32} {M2 : sm_M} (hL : L ≤ 2048) (hI : IV M2) : le_J L xs 20 [some (.ref 103), some (.ref 0), some (.ref 80), some (.ref 102), none, none, none, none] [] (nm_dy skL M2) 103 53273 := by
  refine le_toJ ?_
  refine lj_iconst (q := 21) (v := 0) dl_20 rfl (by decide) ?_
  refine lj_istore (q := 23) (lt := lj_l0 0) dl_21 rfl (by omega) rfl rfl ?_
  refine lj_wide (nc' := 103 + 0) (ns' := 53300 + 6 * 0) (Nat.le_of_ble_eq_true rfl) (Nat.le_of_ble_eq_true rfl) ?_
  exact lj_loop q_all hL (L + 1) 0 M2 (by omega) (by omega) hI
theorem le_lM (M2 : sm_M) : (nm_dy skM M2).length = 102 := nm_dyl skM M2
theorem le_lX (M1 : sm_M) : (nm_dy skX M1).length = 80 := nm_dyl skX M1
theorem le_s15 {L : Nat} {xs : Nat → Int32} {M2 : sm_M} (hL : L ≤ 2048) (hI : IV M2) (z1 : M2.1 102 = fun _ => 0) (z2 : M2.2 102 = fun _ => 0) : le_J L xs 15 [some (.ref 103), some (.ref 0), none, none, none, none, none, none] [.ref 80] (nm_dy skM M2) 102 53272 := by
  refine le_astore (q := 16) (lt := [some (.ref 103), some (.ref 0), some (.ref 80), none, none, none, none, none]) dl_15 rfl rfl rfl ?_
  refine le_iconst (q := 17) (v := 1) dl_16 rfl (by decide) ?_
  refine le_newl (q := 19) (N := 1) dl_17 rfl (by decide) (by decide) (by omega) (le_lM M2) (Nat.le_of_ble_eq_true rfl) (Nat.le_of_ble_eq_true rfl) (by omega) (fun d5 h5 => ?_)
  rw [h5.trans (le_dyL z1 z2)]
  refine le_astore (q := 20) (lt := [some (.ref 103), some (.ref 0), some (.ref 80), some (.ref 102), none, none, none, none]) dl_19 rfl rfl rfl ?_
  exact le_s20 hL hI
theorem le_s8 {L : Nat} {xs : Nat → Int32} {G : Nat} {M1 M2 : sm_M} (hL : L ≤ 2048) (e2 : f_X12_fill G (nm_ini M1) = some M2) (hI : IV M2) (z1 : M2.1 102 = fun _ => 0) (z2 : M2.2 102 = fun _ => 0) : le_J L xs 8 [some (.ref 103), some (.ref 0), none, none, none, none, none, none] [] (nm_dy skX M1) 80 9369 := by
  refine le_new (q := 11) (N := 36) [.int 0, .int 0, .int 0, .int 0, .null, .int 0, .null, .int 0, .null, .null, .null, .null, .int 0, .null, .null, .int 0, .null, .null, .int 0, .null, .int 0, .null, .null, .null, .null, .null, .null, .null, .null, .null, .int 0, .int 0, .int 0, .int 0, .int 0, .null] dl_8 rfl ln_12 (fun r h => by cases h; rfl) fd_12 (fun _ => rfl) (le_lX M1) (Nat.le_of_ble_eq_true rfl) (Nat.le_of_ble_eq_true rfl) (by omega) (fun d3 h3 => ?_)
  have h3' : d3 = nm_dy skX M1 ++ [nm_o12] := h3
  rw [h3']
  refine le_dup (q := 12) dl_11 rfl rfl ?_
  refine le_callI (q := 15) (d' := 4) (mc' := 21) (ms' := 43867) dl_12 rfl lk_12 li_12 (by decide) (by omega) (by rw [List.length_append, le_lX]; rfl) (Nat.le_of_ble_eq_true rfl) (Nat.le_of_ble_eq_true rfl) (by omega) (cN_new12 e2) (fun d4 h4 => ?_)
  rw [h4]
  exact le_s15 hL hI z1 z2
theorem le_start {L : Nat} {xs : Nat → Int32} (hL : L ≤ 2048) : le_J L xs 0 [some (.ref 103), none, none, none, none, none, none, none] [] [] 0 0 := by
  obtain ⟨F, G, M1, M2, e1, e2, hI, z1, z2⟩ := ini_all
  refine le_new (q := 3) (N := 18) [.null, .null, .null, .null, .null, .null, .null, .null, .null, .null, .int 0, .null, .int 0, .null, .int 0, .int 0, .int 0, .int 0] dl_0 rfl ln_11 (fun r h => by cases h; rfl) fd_11 (fun _ => rfl) rfl (Nat.le_of_ble_eq_true rfl) (Nat.le_of_ble_eq_true rfl) (by omega) (fun d1 h1 => ?_)
  have h1' : d1 = [nm_o11] := h1
  rw [h1']
  refine le_dup (q := 4) dl_3 rfl rfl ?_
  refine le_callI (q := 7) (d' := 7) (mc' := 79) (ms' := 9351) dl_4 rfl lk_11 li_11 (by decide) (by omega) rfl (Nat.le_of_ble_eq_true rfl) (Nat.le_of_ble_eq_true rfl) (by omega) (cN_new11 e1) (fun d2 h2 => ?_)
  rw [h2]
  refine le_astore (q := 8) (lt := [some (.ref 103), some (.ref 0), none, none, none, none, none, none]) dl_7 rfl rfl rfl ?_
  exact le_s8 hL e2 hI z1 z2
/-- from the entry, for every script of at most 2048 ints, the law comes to its end with true -/
theorem whole_start {p : Program} {e : Env} {s : State} {m : MethodId} {below : List Frame} {meth : Method} {c : Code} (l : Launch) (hflags : l.flags = flags0) {b L : Nat} {xs : Nat → Int32} (hL : L ≤ 2048) (C0 : lw_At p s m meth c b L xs) : W p l e room_1 s m #[Value.ref b] below meth c s.heap [] 0 0 (lw_Z below #[Value.ref b] s) (entryFrame m ([Value.ref b] : List Value).toArray 8) := by
  obtain ⟨hx, hb, hr, hml, hown, hts, hX, hbl, hlocks, hgv⟩ := id C0
  obtain ⟨D, cA, hK⟩ := le_K hts hgv
  have hst : l.stackTraces = false := by
    unfold Launch.stackTraces
    rw [hflags]
    decide
  have hl := lv_entry ([.ref b]) (n := 8) (Nat.le_of_ble_eq_true rfl)
  rw [lg_entry_eq]
  generalize (lg_sl ([.ref b]) ++ List.replicate (8 - (lg_sl ([.ref b])).length) Slot.unset).toArray = ls at hl ⊢
  have hl : lv_has ls 8 [(0, .ref b)] := hl
  exact le_start hL p l e s m below meth c D b cA ⟨hst, hx, hb, hr, hml, hown, fun w hw => hts w (List.mem_filter.mp hw).1, hlocks, hX, hbl, hK⟩ s.heap [] ls (fun k q h => by simp [nm_ws] at h) va_S.rf hl
