/-! ===== the 42 calls ===== -/
theorem lj_cmp0 (x : Int64) : lg_cmp x x = 0 := by
  unfold lg_cmp
  simp
def lp_r (fx : Nat → sm_M → Option (sm_O × sm_M)) (fm : Nat → sm_M → Option (Int32 × sm_M)) (I : sm_M → Prop) (M : sm_M) : Prop :=
  ∃ (F G : Nat) (v : Int32) (M1 M2 : sm_M), fx F M = some (.inl (some (.int v)), M1) ∧ fm G (sm_ml M1 102 0 v.toInt64) = some (v, M2) ∧ M2.1 80 0 = 0 ∧ M2.2 102 0 = v.toInt64 ∧ I M2
def lp_rl (fx : Nat → sm_M → Option (sm_O × sm_M)) (fm : Nat → sm_M → Option (Int64 × sm_M)) (I : sm_M → Prop) (M : sm_M) : Prop :=
  ∃ (F G : Nat) (v : Int64) (M1 M2 : sm_M), fx F M = some (.inl (some (.long v)), M1) ∧ fm G (sm_ml M1 102 0 v) = some (v, M2) ∧ M2.1 80 0 = 0 ∧ M2.2 102 0 = v ∧ I M2
def lp_x {α : Type} (E : String) (j : Int32) (fx : Nat → sm_M → Option (sm_O × sm_M)) (fm : Nat → sm_M → Option (α × sm_M)) (I : sm_M → Prop) (M : sm_M) : Prop :=
  ∃ (F G : Nat) (w : α) (M1 M2 : sm_M), fx F M = some (.inr E, M1) ∧ fm G M1 = some (w, M2) ∧ M2.1 80 0 = j ∧ I M2
def lp_d (fx : Nat → sm_M → Option (Int32 × sm_M)) (fm : Nat → sm_M → Option (Int32 × sm_M)) (I : sm_M → Prop) (M : sm_M) : Prop :=
  ∃ (F G : Nat) (v : Int32) (M1 M2 : sm_M), fx F M = some (v, M1) ∧ fm G M1 = some (v, M2) ∧ I M2
def lp_d0 (fx : Nat → sm_M → Option Int32) (fm : Nat → sm_M → Option (Int32 × sm_M)) (I : sm_M → Prop) (M : sm_M) : Prop :=
  ∃ (F G : Nat) (v : Int32) (M2 : sm_M), fx F M = some v ∧ fm G M = some (v, M2) ∧ I M2
abbrev lj_l0 (n0 : Nat) : List (Option Value) := [some (.ref 103), some (.ref 0), some (.ref 80), some (.ref 102), some (.int (Int32.ofNat n0)), none, none, none]
theorem lj_cmp1 {x y : Int64} (h : x = y) : lg_cmp x y = 0 := by
  subst h
  exact lj_cmp0 x
theorem th_thrown (M : sm_M) : f_X12_thrown 0 M = some (M.1 80 0) := rfl
theorem lh_0 : lj_LH 112 yL_setFamily md_L_setFamily hh_L_setFamily 5 := ⟨sm_w (List.mem_of_getElem? (i := 651) (by decide +kernel)) rfl, sm_w (List.mem_of_getElem? (i := 652) (by decide +kernel)) rfl, sm_w (List.mem_of_getElem? (i := 58) (by decide +kernel)) rfl, sm_w (List.mem_of_getElem? (i := 653) (by decide +kernel)) rfl, by decide, by decide +kernel, by decide +kernel⟩
theorem lv_117 : sm_LV RL 117 yX12_setFamily md_X12_setFamily 3 := ⟨sm_w (List.mem_of_getElem? (i := 1310) (by decide +kernel)) rfl, sm_w (List.mem_of_getElem? (i := 1311) (by decide +kernel)) rfl, sm_w (List.mem_of_getElem? (i := 1312) (by decide +kernel)) rfl, sm_w (List.mem_of_getElem? (i := 75) (by decide +kernel)) rfl, sm_w (List.mem_of_getElem? (i := 1313) (by decide +kernel)) rfl, by decide, by decide +kernel⟩
theorem lv_118 : sm_LV RL 118 yX12_thrown md_X12_thrown 0 := ⟨sm_w (List.mem_of_getElem? (i := 1172) (by decide +kernel)) rfl, sm_w (List.mem_of_getElem? (i := 1173) (by decide +kernel)) rfl, sm_w (List.mem_of_getElem? (i := 1174) (by decide +kernel)) rfl, sm_w (List.mem_of_getElem? (i := 75) (by decide +kernel)) rfl, sm_w (List.mem_of_getElem? (i := 1175) (by decide +kernel)) rfl, by decide, by decide +kernel⟩
theorem lo_0 {L : Nat} {xs : Nat → Int32} {n0 nc ns : Nat} {M : sm_M} (hL9 : L ≤ 2048) (h4 : n0 + 4 ≤ L) (hnc : nc ≤ 599000) (hns : ns ≤ 6990000) {I : sm_M → Prop} (hp : lp_r (fun F M => f_X11_setFamily F (xs (n0 + 1)) (xs (n0 + 2)) (xs (n0 + 3)) M) (fun F M => f_X12_setFamily F (xs (n0 + 1)) (xs (n0 + 2)) (xs (n0 + 3)) M) I M ∨ lp_x "java/lang/IllegalArgumentException" 1 (fun F M => f_X11_setFamily F (xs (n0 + 1)) (xs (n0 + 2)) (xs (n0 + 3)) M) (fun F M => f_X12_setFamily F (xs (n0 + 1)) (xs (n0 + 2)) (xs (n0 + 3)) M) I M) (k : ∀ M2, I M2 → lj_J L xs 1900 (lj_l0 n0) [] M2 (nc + 1) (ns + 6)) : lj_J L xs 220 (lj_l0 n0) [] M nc ns := by
  rcases hp with ⟨F, G, v, M1, M2, h1, h2, h3, h5, hI⟩ | ⟨F, G, w, M1, M2, h1, h2, h3, hI⟩
  · skip
    refine lj_aload_n (q := 221) dl_220 rfl rfl ?_
    refine lj_aload_n (q := 222) dl_221 rfl rfl ?_
    refine lj_iload (q := 224) dl_222 rfl rfl ?_
    refine lj_iconst (q := 225) (v := 1) dl_224 rfl (by decide) ?_
    refine lj_iadd (q := 226) dl_225 rfl ?_
    refine lj_sld (q := 227) (t := 1) dl_226 rfl hL9 (by omega) rfl ?_
    refine lj_aload_n (q := 228) dl_227 rfl rfl ?_
    refine lj_iload (q := 230) dl_228 rfl rfl ?_
    refine lj_iconst (q := 231) (v := 2) dl_230 rfl (by decide) ?_
    refine lj_iadd (q := 232) dl_231 rfl ?_
    refine lj_sld (q := 233) (t := 2) dl_232 rfl hL9 (by omega) rfl ?_
    refine lj_aload_n (q := 234) dl_233 rfl rfl ?_
    refine lj_iload (q := 236) dl_234 rfl rfl ?_
    refine lj_iconst (q := 237) (v := 3) dl_236 rfl (by decide) ?_
    refine lj_iadd (q := 238) dl_237 rfl ?_
    refine lj_sld (q := 239) (t := 3) dl_238 rfl hL9 (by omega) rfl ?_
    refine lj_aload_n (q := 240) dl_239 rfl rfl ?_
    refine lj_callH (q := 243) [] [.ref 0, .int (xs (n0 + 1)), .int (xs (n0 + 2)), .int (xs (n0 + 3)), .ref 102] dl_240 rfl lh_0 rfl (Nat.le_of_ble_eq_true rfl) (Nat.le_of_ble_eq_true rfl) (by omega) (by omega) (hR_L_setFamily lj_x lj_102 (xs (n0 + 1)) (xs (n0 + 2)) (xs (n0 + 3)) (c_X11_setFamily lj_x F (xs (n0 + 1)) (xs (n0 + 2)) (xs (n0 + 3)) M (.inl (some (.int v)), M1) h1)) ?_
    refine lj_istore (q := 245) (lt := [some (.ref 103), some (.ref 0), some (.ref 80), some (.ref 102), some (.int (Int32.ofNat n0)), some (.int 0), none, none]) dl_243 rfl (Nat.le_of_ble_eq_true rfl) rfl rfl ?_
    refine lj_aload_n (q := 246) dl_245 rfl rfl ?_
    refine lj_aload_n (q := 247) dl_246 rfl rfl ?_
    refine lj_iload (q := 249) dl_247 rfl rfl ?_
    refine lj_iconst (q := 250) (v := 1) dl_249 rfl (by decide) ?_
    refine lj_iadd (q := 251) dl_250 rfl ?_
    refine lj_sld (q := 252) (t := 1) dl_251 rfl hL9 (by omega) rfl ?_
    refine lj_aload_n (q := 253) dl_252 rfl rfl ?_
    refine lj_iload (q := 255) dl_253 rfl rfl ?_
    refine lj_iconst (q := 256) (v := 2) dl_255 rfl (by decide) ?_
    refine lj_iadd (q := 257) dl_256 rfl ?_
    refine lj_sld (q := 258) (t := 2) dl_257 rfl hL9 (by omega) rfl ?_
    refine lj_aload_n (q := 259) dl_258 rfl rfl ?_
    refine lj_iload (q := 261) dl_259 rfl rfl ?_
    refine lj_iconst (q := 262) (v := 3) dl_261 rfl (by decide) ?_
    refine lj_iadd (q := 263) dl_262 rfl ?_
    refine lj_sld (q := 264) (t := 3) dl_263 rfl hL9 (by omega) rfl ?_
    refine lj_callV (q := 267) [] [.int (xs (n0 + 1)), .int (xs (n0 + 2)), .int (xs (n0 + 3))] dl_264 rfl lv_117 lj_80 rfl rfl rfl (Nat.le_of_ble_eq_true rfl) (Nat.le_of_ble_eq_true rfl) (by omega) (by omega) (c_X12_setFamily lj_m G (xs (n0 + 1)) (xs (n0 + 2)) (xs (n0 + 3)) _ (v, M2) h2) ?_
    refine lj_istore (q := 269) (lt := [some (.ref 103), some (.ref 0), some (.ref 80), some (.ref 102), some (.int (Int32.ofNat n0)), some (.int 0), some (.int v), none]) dl_267 rfl (Nat.le_of_ble_eq_true rfl) rfl rfl ?_
    refine lj_aload_n (q := 270) dl_269 rfl rfl ?_
    refine lj_callV (q := 273) [] [] dl_270 rfl lv_118 lj_80 rfl rfl rfl (Nat.le_of_ble_eq_true rfl) (Nat.le_of_ble_eq_true rfl) (by omega) (by omega) (c_X12_thrown lj_m 0 M2 _ (th_thrown M2)) ?_
    refine lj_iload (q := 275) dl_273 rfl rfl ?_
    refine lj_icmp_eq (q := 278) (t := 280) dl_275 rfl rfl (fun _ => ?_) (fun h => absurd h3 h)
    refine lj_iload (q := 282) dl_280 rfl rfl ?_
    refine lj_if_ne (q := 285) (t := 297) dl_282 rfl rfl (fun h => absurd rfl h) (fun _ => ?_)
    refine lj_aload_n (q := 286) dl_285 rfl rfl ?_
    refine lj_iconst (q := 287) (v := 0) dl_286 rfl (by decide) ?_
    refine lj_laload (q := 288) dl_287 rfl lj_102 (sm_ib_of rfl) ?_
    refine lj_iload (q := 290) dl_288 rfl rfl ?_
    refine lj_i2l (q := 291) dl_290 rfl ?_
    refine lj_lcmp (q := 292) dl_291 rfl ?_
    refine lj_if_eq (q := 295) (t := 297) dl_292 rfl rfl (fun _ => ?_) (fun h => absurd (lj_cmp1 h5) h)
    refine lj_goto (t := 1900) dl_297 rfl ?_
    refine lj_fg [5, 6] (lt := lj_l0 n0) rfl ?_
    exact k M2 hI
  · skip
    refine lj_aload_n (q := 221) dl_220 rfl rfl ?_
    refine lj_aload_n (q := 222) dl_221 rfl rfl ?_
    refine lj_iload (q := 224) dl_222 rfl rfl ?_
    refine lj_iconst (q := 225) (v := 1) dl_224 rfl (by decide) ?_
    refine lj_iadd (q := 226) dl_225 rfl ?_
    refine lj_sld (q := 227) (t := 1) dl_226 rfl hL9 (by omega) rfl ?_
    refine lj_aload_n (q := 228) dl_227 rfl rfl ?_
    refine lj_iload (q := 230) dl_228 rfl rfl ?_
    refine lj_iconst (q := 231) (v := 2) dl_230 rfl (by decide) ?_
    refine lj_iadd (q := 232) dl_231 rfl ?_
    refine lj_sld (q := 233) (t := 2) dl_232 rfl hL9 (by omega) rfl ?_
    refine lj_aload_n (q := 234) dl_233 rfl rfl ?_
    refine lj_iload (q := 236) dl_234 rfl rfl ?_
    refine lj_iconst (q := 237) (v := 3) dl_236 rfl (by decide) ?_
    refine lj_iadd (q := 238) dl_237 rfl ?_
    refine lj_sld (q := 239) (t := 3) dl_238 rfl hL9 (by omega) rfl ?_
    refine lj_aload_n (q := 240) dl_239 rfl rfl ?_
    refine lj_callH (q := 243) [] [.ref 0, .int (xs (n0 + 1)), .int (xs (n0 + 2)), .int (xs (n0 + 3)), .ref 102] dl_240 rfl lh_0 rfl (Nat.le_of_ble_eq_true rfl) (Nat.le_of_ble_eq_true rfl) (by omega) (by omega) (hX1_L_setFamily lj_x lj_102 (xs (n0 + 1)) (xs (n0 + 2)) (xs (n0 + 3)) (c_X11_setFamily lj_x F (xs (n0 + 1)) (xs (n0 + 2)) (xs (n0 + 3)) M (.inr "java/lang/IllegalArgumentException", M1) h1)) ?_
    refine lj_istore (q := 245) (lt := [some (.ref 103), some (.ref 0), some (.ref 80), some (.ref 102), some (.int (Int32.ofNat n0)), some (.int 1), none, none]) dl_243 rfl (Nat.le_of_ble_eq_true rfl) rfl rfl ?_
    refine lj_aload_n (q := 246) dl_245 rfl rfl ?_
    refine lj_aload_n (q := 247) dl_246 rfl rfl ?_
    refine lj_iload (q := 249) dl_247 rfl rfl ?_
    refine lj_iconst (q := 250) (v := 1) dl_249 rfl (by decide) ?_
    refine lj_iadd (q := 251) dl_250 rfl ?_
    refine lj_sld (q := 252) (t := 1) dl_251 rfl hL9 (by omega) rfl ?_
    refine lj_aload_n (q := 253) dl_252 rfl rfl ?_
    refine lj_iload (q := 255) dl_253 rfl rfl ?_
    refine lj_iconst (q := 256) (v := 2) dl_255 rfl (by decide) ?_
    refine lj_iadd (q := 257) dl_256 rfl ?_
    refine lj_sld (q := 258) (t := 2) dl_257 rfl hL9 (by omega) rfl ?_
    refine lj_aload_n (q := 259) dl_258 rfl rfl ?_
    refine lj_iload (q := 261) dl_259 rfl rfl ?_
    refine lj_iconst (q := 262) (v := 3) dl_261 rfl (by decide) ?_
    refine lj_iadd (q := 263) dl_262 rfl ?_
    refine lj_sld (q := 264) (t := 3) dl_263 rfl hL9 (by omega) rfl ?_
    refine lj_callV (q := 267) [] [.int (xs (n0 + 1)), .int (xs (n0 + 2)), .int (xs (n0 + 3))] dl_264 rfl lv_117 lj_80 rfl rfl rfl (Nat.le_of_ble_eq_true rfl) (Nat.le_of_ble_eq_true rfl) (by omega) (by omega) (c_X12_setFamily lj_m G (xs (n0 + 1)) (xs (n0 + 2)) (xs (n0 + 3)) _ (w, M2) h2) ?_
    refine lj_istore (q := 269) (lt := [some (.ref 103), some (.ref 0), some (.ref 80), some (.ref 102), some (.int (Int32.ofNat n0)), some (.int 1), some (.int w), none]) dl_267 rfl (Nat.le_of_ble_eq_true rfl) rfl rfl ?_
    refine lj_aload_n (q := 270) dl_269 rfl rfl ?_
    refine lj_callV (q := 273) [] [] dl_270 rfl lv_118 lj_80 rfl rfl rfl (Nat.le_of_ble_eq_true rfl) (Nat.le_of_ble_eq_true rfl) (by omega) (by omega) (c_X12_thrown lj_m 0 M2 _ (th_thrown M2)) ?_
    refine lj_iload (q := 275) dl_273 rfl rfl ?_
    refine lj_icmp_eq (q := 278) (t := 280) dl_275 rfl rfl (fun _ => ?_) (fun h => absurd h3 h)
    refine lj_iload (q := 282) dl_280 rfl rfl ?_
    refine lj_if_ne (q := 285) (t := 297) dl_282 rfl rfl (fun _ => ?_) (fun h => absurd h (by decide))
    refine lj_goto (t := 1900) dl_297 rfl ?_
    refine lj_fg [5, 6] (lt := lj_l0 n0) rfl ?_
    exact k M2 hI
theorem lv_121 : sm_LV RL 121 yX11_elementCount md_X11_elementCount 0 := ⟨sm_w (List.mem_of_getElem? (i := 506) (by decide +kernel)) rfl, sm_w (List.mem_of_getElem? (i := 507) (by decide +kernel)) rfl, sm_w (List.mem_of_getElem? (i := 508) (by decide +kernel)) rfl, sm_w (List.mem_of_getElem? (i := 59) (by decide +kernel)) rfl, sm_w (List.mem_of_getElem? (i := 509) (by decide +kernel)) rfl, by decide, by decide +kernel⟩
theorem lv_124 : sm_LV RL 124 yX12_elementCount md_X12_elementCount 0 := ⟨sm_w (List.mem_of_getElem? (i := 1324) (by decide +kernel)) rfl, sm_w (List.mem_of_getElem? (i := 1325) (by decide +kernel)) rfl, sm_w (List.mem_of_getElem? (i := 1326) (by decide +kernel)) rfl, sm_w (List.mem_of_getElem? (i := 75) (by decide +kernel)) rfl, sm_w (List.mem_of_getElem? (i := 1327) (by decide +kernel)) rfl, by decide, by decide +kernel⟩
theorem lo_1 {L : Nat} {xs : Nat → Int32} {n0 nc ns : Nat} {M : sm_M} (hL9 : L ≤ 2048) (h4 : n0 + 4 ≤ L) (hnc : nc ≤ 599000) (hns : ns ≤ 6990000) {I : sm_M → Prop} (hp : lp_d0 (fun F M => f_X11_elementCount F M) (fun F M => f_X12_elementCount F M) I M) (k : ∀ M2, I M2 → lj_J L xs 1900 (lj_l0 n0) [] M2 (nc + 1) (ns + 6)) : lj_J L xs 300 (lj_l0 n0) [] M nc ns := by
  obtain ⟨F, G, v, M2, h1, h2, hI⟩ := hp
  refine lj_aload_n (q := 301) dl_300 rfl rfl ?_
  refine lj_callV (q := 304) [] [] dl_301 rfl lv_121 lj_0 rfl rfl rfl (Nat.le_of_ble_eq_true rfl) (Nat.le_of_ble_eq_true rfl) (by omega) (by omega) (c_X11_elementCount lj_x F M v h1) ?_
  refine lj_aload_n (q := 305) dl_304 rfl rfl ?_
  refine lj_callV (q := 308) [.int v] [] dl_305 rfl lv_124 lj_80 rfl rfl rfl (Nat.le_of_ble_eq_true rfl) (Nat.le_of_ble_eq_true rfl) (by omega) (by omega) (c_X12_elementCount lj_m G _ (v, M2) h2) ?_
  refine lj_icmp_eq (q := 311) (t := 1900) dl_308 rfl rfl (fun _ => ?_) (fun h => absurd rfl h)
  exact lj_wide (Nat.le_add_right _ _) (Nat.le_add_right _ _) (k M2 hI)
theorem lh_2 : lj_LH 125 yL_elementAt md_L_elementAt hh_L_elementAt 4 := ⟨sm_w (List.mem_of_getElem? (i := 737) (by decide +kernel)) rfl, sm_w (List.mem_of_getElem? (i := 738) (by decide +kernel)) rfl, sm_w (List.mem_of_getElem? (i := 58) (by decide +kernel)) rfl, sm_w (List.mem_of_getElem? (i := 739) (by decide +kernel)) rfl, by decide, by decide +kernel, by decide +kernel⟩
theorem lv_128 : sm_LV RL 128 yX12_elementAt md_X12_elementAt 2 := ⟨sm_w (List.mem_of_getElem? (i := 1328) (by decide +kernel)) rfl, sm_w (List.mem_of_getElem? (i := 1329) (by decide +kernel)) rfl, sm_w (List.mem_of_getElem? (i := 1330) (by decide +kernel)) rfl, sm_w (List.mem_of_getElem? (i := 75) (by decide +kernel)) rfl, sm_w (List.mem_of_getElem? (i := 1331) (by decide +kernel)) rfl, by decide, by decide +kernel⟩
theorem lo_2 {L : Nat} {xs : Nat → Int32} {n0 nc ns : Nat} {M : sm_M} (hL9 : L ≤ 2048) (h4 : n0 + 4 ≤ L) (hnc : nc ≤ 599000) (hns : ns ≤ 6990000) {I : sm_M → Prop} (hp : lp_r (fun F M => f_X11_elementAt F (xs (n0 + 1)) (xs (n0 + 2)) M) (fun F M => f_X12_elementAt F (xs (n0 + 1)) (xs (n0 + 2)) M) I M ∨ lp_x "java/lang/IndexOutOfBoundsException" 1 (fun F M => f_X11_elementAt F (xs (n0 + 1)) (xs (n0 + 2)) M) (fun F M => f_X12_elementAt F (xs (n0 + 1)) (xs (n0 + 2)) M) I M) (k : ∀ M2, I M2 → lj_J L xs 1900 (lj_l0 n0) [] M2 (nc + 1) (ns + 6)) : lj_J L xs 313 (lj_l0 n0) [] M nc ns := by
  rcases hp with ⟨F, G, v, M1, M2, h1, h2, h3, h5, hI⟩ | ⟨F, G, w, M1, M2, h1, h2, h3, hI⟩
  · skip
    refine lj_aload_n (q := 314) dl_313 rfl rfl ?_
    refine lj_aload_n (q := 315) dl_314 rfl rfl ?_
    refine lj_iload (q := 317) dl_315 rfl rfl ?_
    refine lj_iconst (q := 318) (v := 1) dl_317 rfl (by decide) ?_
    refine lj_iadd (q := 319) dl_318 rfl ?_
    refine lj_sld (q := 320) (t := 1) dl_319 rfl hL9 (by omega) rfl ?_
    refine lj_aload_n (q := 321) dl_320 rfl rfl ?_
    refine lj_iload (q := 323) dl_321 rfl rfl ?_
    refine lj_iconst (q := 324) (v := 2) dl_323 rfl (by decide) ?_
    refine lj_iadd (q := 325) dl_324 rfl ?_
    refine lj_sld (q := 326) (t := 2) dl_325 rfl hL9 (by omega) rfl ?_
    refine lj_aload_n (q := 327) dl_326 rfl rfl ?_
    refine lj_callH (q := 330) [] [.ref 0, .int (xs (n0 + 1)), .int (xs (n0 + 2)), .ref 102] dl_327 rfl lh_2 rfl (Nat.le_of_ble_eq_true rfl) (Nat.le_of_ble_eq_true rfl) (by omega) (by omega) (hR_L_elementAt lj_x lj_102 (xs (n0 + 1)) (xs (n0 + 2)) (c_X11_elementAt lj_x F (xs (n0 + 1)) (xs (n0 + 2)) M (.inl (some (.int v)), M1) h1)) ?_
    refine lj_istore (q := 332) (lt := [some (.ref 103), some (.ref 0), some (.ref 80), some (.ref 102), some (.int (Int32.ofNat n0)), some (.int 0), none, none]) dl_330 rfl (Nat.le_of_ble_eq_true rfl) rfl rfl ?_
    refine lj_aload_n (q := 333) dl_332 rfl rfl ?_
    refine lj_aload_n (q := 334) dl_333 rfl rfl ?_
    refine lj_iload (q := 336) dl_334 rfl rfl ?_
    refine lj_iconst (q := 337) (v := 1) dl_336 rfl (by decide) ?_
    refine lj_iadd (q := 338) dl_337 rfl ?_
    refine lj_sld (q := 339) (t := 1) dl_338 rfl hL9 (by omega) rfl ?_
    refine lj_aload_n (q := 340) dl_339 rfl rfl ?_
    refine lj_iload (q := 342) dl_340 rfl rfl ?_
    refine lj_iconst (q := 343) (v := 2) dl_342 rfl (by decide) ?_
    refine lj_iadd (q := 344) dl_343 rfl ?_
    refine lj_sld (q := 345) (t := 2) dl_344 rfl hL9 (by omega) rfl ?_
    refine lj_callV (q := 348) [] [.int (xs (n0 + 1)), .int (xs (n0 + 2))] dl_345 rfl lv_128 lj_80 rfl rfl rfl (Nat.le_of_ble_eq_true rfl) (Nat.le_of_ble_eq_true rfl) (by omega) (by omega) (c_X12_elementAt lj_m G (xs (n0 + 1)) (xs (n0 + 2)) _ (v, M2) h2) ?_
    refine lj_istore (q := 350) (lt := [some (.ref 103), some (.ref 0), some (.ref 80), some (.ref 102), some (.int (Int32.ofNat n0)), some (.int 0), some (.int v), none]) dl_348 rfl (Nat.le_of_ble_eq_true rfl) rfl rfl ?_
    refine lj_aload_n (q := 351) dl_350 rfl rfl ?_
    refine lj_callV (q := 354) [] [] dl_351 rfl lv_118 lj_80 rfl rfl rfl (Nat.le_of_ble_eq_true rfl) (Nat.le_of_ble_eq_true rfl) (by omega) (by omega) (c_X12_thrown lj_m 0 M2 _ (th_thrown M2)) ?_
    refine lj_iload (q := 356) dl_354 rfl rfl ?_
    refine lj_icmp_eq (q := 359) (t := 361) dl_356 rfl rfl (fun _ => ?_) (fun h => absurd h3 h)
    refine lj_iload (q := 363) dl_361 rfl rfl ?_
    refine lj_if_ne (q := 366) (t := 378) dl_363 rfl rfl (fun h => absurd rfl h) (fun _ => ?_)
    refine lj_aload_n (q := 367) dl_366 rfl rfl ?_
    refine lj_iconst (q := 368) (v := 0) dl_367 rfl (by decide) ?_
    refine lj_laload (q := 369) dl_368 rfl lj_102 (sm_ib_of rfl) ?_
    refine lj_iload (q := 371) dl_369 rfl rfl ?_
    refine lj_i2l (q := 372) dl_371 rfl ?_
    refine lj_lcmp (q := 373) dl_372 rfl ?_
    refine lj_if_eq (q := 376) (t := 378) dl_373 rfl rfl (fun _ => ?_) (fun h => absurd (lj_cmp1 h5) h)
    refine lj_goto (t := 1900) dl_378 rfl ?_
    refine lj_fg [5, 6] (lt := lj_l0 n0) rfl ?_
    exact k M2 hI
  · skip
    refine lj_aload_n (q := 314) dl_313 rfl rfl ?_
    refine lj_aload_n (q := 315) dl_314 rfl rfl ?_
    refine lj_iload (q := 317) dl_315 rfl rfl ?_
    refine lj_iconst (q := 318) (v := 1) dl_317 rfl (by decide) ?_
    refine lj_iadd (q := 319) dl_318 rfl ?_
    refine lj_sld (q := 320) (t := 1) dl_319 rfl hL9 (by omega) rfl ?_
    refine lj_aload_n (q := 321) dl_320 rfl rfl ?_
    refine lj_iload (q := 323) dl_321 rfl rfl ?_
    refine lj_iconst (q := 324) (v := 2) dl_323 rfl (by decide) ?_
    refine lj_iadd (q := 325) dl_324 rfl ?_
    refine lj_sld (q := 326) (t := 2) dl_325 rfl hL9 (by omega) rfl ?_
    refine lj_aload_n (q := 327) dl_326 rfl rfl ?_
    refine lj_callH (q := 330) [] [.ref 0, .int (xs (n0 + 1)), .int (xs (n0 + 2)), .ref 102] dl_327 rfl lh_2 rfl (Nat.le_of_ble_eq_true rfl) (Nat.le_of_ble_eq_true rfl) (by omega) (by omega) (hX1_L_elementAt lj_x lj_102 (xs (n0 + 1)) (xs (n0 + 2)) (c_X11_elementAt lj_x F (xs (n0 + 1)) (xs (n0 + 2)) M (.inr "java/lang/IndexOutOfBoundsException", M1) h1)) ?_
    refine lj_istore (q := 332) (lt := [some (.ref 103), some (.ref 0), some (.ref 80), some (.ref 102), some (.int (Int32.ofNat n0)), some (.int 1), none, none]) dl_330 rfl (Nat.le_of_ble_eq_true rfl) rfl rfl ?_
    refine lj_aload_n (q := 333) dl_332 rfl rfl ?_
    refine lj_aload_n (q := 334) dl_333 rfl rfl ?_
    refine lj_iload (q := 336) dl_334 rfl rfl ?_
    refine lj_iconst (q := 337) (v := 1) dl_336 rfl (by decide) ?_
    refine lj_iadd (q := 338) dl_337 rfl ?_
    refine lj_sld (q := 339) (t := 1) dl_338 rfl hL9 (by omega) rfl ?_
    refine lj_aload_n (q := 340) dl_339 rfl rfl ?_
    refine lj_iload (q := 342) dl_340 rfl rfl ?_
    refine lj_iconst (q := 343) (v := 2) dl_342 rfl (by decide) ?_
    refine lj_iadd (q := 344) dl_343 rfl ?_
    refine lj_sld (q := 345) (t := 2) dl_344 rfl hL9 (by omega) rfl ?_
    refine lj_callV (q := 348) [] [.int (xs (n0 + 1)), .int (xs (n0 + 2))] dl_345 rfl lv_128 lj_80 rfl rfl rfl (Nat.le_of_ble_eq_true rfl) (Nat.le_of_ble_eq_true rfl) (by omega) (by omega) (c_X12_elementAt lj_m G (xs (n0 + 1)) (xs (n0 + 2)) _ (w, M2) h2) ?_
    refine lj_istore (q := 350) (lt := [some (.ref 103), some (.ref 0), some (.ref 80), some (.ref 102), some (.int (Int32.ofNat n0)), some (.int 1), some (.int w), none]) dl_348 rfl (Nat.le_of_ble_eq_true rfl) rfl rfl ?_
    refine lj_aload_n (q := 351) dl_350 rfl rfl ?_
    refine lj_callV (q := 354) [] [] dl_351 rfl lv_118 lj_80 rfl rfl rfl (Nat.le_of_ble_eq_true rfl) (Nat.le_of_ble_eq_true rfl) (by omega) (by omega) (c_X12_thrown lj_m 0 M2 _ (th_thrown M2)) ?_
    refine lj_iload (q := 356) dl_354 rfl rfl ?_
    refine lj_icmp_eq (q := 359) (t := 361) dl_356 rfl rfl (fun _ => ?_) (fun h => absurd h3 h)
    refine lj_iload (q := 363) dl_361 rfl rfl ?_
    refine lj_if_ne (q := 366) (t := 378) dl_363 rfl rfl (fun _ => ?_) (fun h => absurd h (by decide))
    refine lj_goto (t := 1900) dl_378 rfl ?_
    refine lj_fg [5, 6] (lt := lj_l0 n0) rfl ?_
    exact k M2 hI
theorem lh_3 : lj_LH 129 yL_append md_L_append hh_L_append 3 := ⟨sm_w (List.mem_of_getElem? (i := 787) (by decide +kernel)) rfl, sm_w (List.mem_of_getElem? (i := 788) (by decide +kernel)) rfl, sm_w (List.mem_of_getElem? (i := 58) (by decide +kernel)) rfl, sm_w (List.mem_of_getElem? (i := 789) (by decide +kernel)) rfl, by decide, by decide +kernel, by decide +kernel⟩
theorem lv_132 : sm_LV RL 132 yX12_append md_X12_append 1 := ⟨sm_w (List.mem_of_getElem? (i := 1336) (by decide +kernel)) rfl, sm_w (List.mem_of_getElem? (i := 1337) (by decide +kernel)) rfl, sm_w (List.mem_of_getElem? (i := 1338) (by decide +kernel)) rfl, sm_w (List.mem_of_getElem? (i := 75) (by decide +kernel)) rfl, sm_w (List.mem_of_getElem? (i := 1339) (by decide +kernel)) rfl, by decide, by decide +kernel⟩
theorem lo_3 {L : Nat} {xs : Nat → Int32} {n0 nc ns : Nat} {M : sm_M} (hL9 : L ≤ 2048) (h4 : n0 + 4 ≤ L) (hnc : nc ≤ 599000) (hns : ns ≤ 6990000) {I : sm_M → Prop} (hp : lp_r (fun F M => f_X11_append F (xs (n0 + 1)) M) (fun F M => f_X12_append F (xs (n0 + 1)) M) I M ∨ lp_x "java/lang/IllegalArgumentException" 1 (fun F M => f_X11_append F (xs (n0 + 1)) M) (fun F M => f_X12_append F (xs (n0 + 1)) M) I M ∨ lp_x "java/lang/IllegalStateException" 2 (fun F M => f_X11_append F (xs (n0 + 1)) M) (fun F M => f_X12_append F (xs (n0 + 1)) M) I M) (k : ∀ M2, I M2 → lj_J L xs 1900 (lj_l0 n0) [] M2 (nc + 1) (ns + 6)) : lj_J L xs 381 (lj_l0 n0) [] M nc ns := by
  rcases hp with ⟨F, G, v, M1, M2, h1, h2, h3, h5, hI⟩ | ⟨F, G, w, M1, M2, h1, h2, h3, hI⟩ | ⟨F, G, w, M1, M2, h1, h2, h3, hI⟩
  · skip
    refine lj_aload_n (q := 382) dl_381 rfl rfl ?_
    refine lj_aload_n (q := 383) dl_382 rfl rfl ?_
    refine lj_iload (q := 385) dl_383 rfl rfl ?_
    refine lj_iconst (q := 386) (v := 1) dl_385 rfl (by decide) ?_
    refine lj_iadd (q := 387) dl_386 rfl ?_
    refine lj_sld (q := 388) (t := 1) dl_387 rfl hL9 (by omega) rfl ?_
    refine lj_aload_n (q := 389) dl_388 rfl rfl ?_
    refine lj_callH (q := 392) [] [.ref 0, .int (xs (n0 + 1)), .ref 102] dl_389 rfl lh_3 rfl (Nat.le_of_ble_eq_true rfl) (Nat.le_of_ble_eq_true rfl) (by omega) (by omega) (hR_L_append lj_x lj_102 (xs (n0 + 1)) (c_X11_append lj_x F (xs (n0 + 1)) M (.inl (some (.int v)), M1) h1)) ?_
    refine lj_istore (q := 394) (lt := [some (.ref 103), some (.ref 0), some (.ref 80), some (.ref 102), some (.int (Int32.ofNat n0)), some (.int 0), none, none]) dl_392 rfl (Nat.le_of_ble_eq_true rfl) rfl rfl ?_
    refine lj_aload_n (q := 395) dl_394 rfl rfl ?_
    refine lj_aload_n (q := 396) dl_395 rfl rfl ?_
    refine lj_iload (q := 398) dl_396 rfl rfl ?_
    refine lj_iconst (q := 399) (v := 1) dl_398 rfl (by decide) ?_
    refine lj_iadd (q := 400) dl_399 rfl ?_
    refine lj_sld (q := 401) (t := 1) dl_400 rfl hL9 (by omega) rfl ?_
    refine lj_callV (q := 404) [] [.int (xs (n0 + 1))] dl_401 rfl lv_132 lj_80 rfl rfl rfl (Nat.le_of_ble_eq_true rfl) (Nat.le_of_ble_eq_true rfl) (by omega) (by omega) (c_X12_append lj_m G (xs (n0 + 1)) _ (v, M2) h2) ?_
    refine lj_istore (q := 406) (lt := [some (.ref 103), some (.ref 0), some (.ref 80), some (.ref 102), some (.int (Int32.ofNat n0)), some (.int 0), some (.int v), none]) dl_404 rfl (Nat.le_of_ble_eq_true rfl) rfl rfl ?_
    refine lj_aload_n (q := 407) dl_406 rfl rfl ?_
    refine lj_callV (q := 410) [] [] dl_407 rfl lv_118 lj_80 rfl rfl rfl (Nat.le_of_ble_eq_true rfl) (Nat.le_of_ble_eq_true rfl) (by omega) (by omega) (c_X12_thrown lj_m 0 M2 _ (th_thrown M2)) ?_
    refine lj_iload (q := 412) dl_410 rfl rfl ?_
    refine lj_icmp_eq (q := 415) (t := 417) dl_412 rfl rfl (fun _ => ?_) (fun h => absurd h3 h)
    refine lj_iload (q := 419) dl_417 rfl rfl ?_
    refine lj_if_ne (q := 422) (t := 434) dl_419 rfl rfl (fun h => absurd rfl h) (fun _ => ?_)
    refine lj_aload_n (q := 423) dl_422 rfl rfl ?_
    refine lj_iconst (q := 424) (v := 0) dl_423 rfl (by decide) ?_
    refine lj_laload (q := 425) dl_424 rfl lj_102 (sm_ib_of rfl) ?_
    refine lj_iload (q := 427) dl_425 rfl rfl ?_
    refine lj_i2l (q := 428) dl_427 rfl ?_
    refine lj_lcmp (q := 429) dl_428 rfl ?_
    refine lj_if_eq (q := 432) (t := 434) dl_429 rfl rfl (fun _ => ?_) (fun h => absurd (lj_cmp1 h5) h)
    refine lj_goto (t := 1900) dl_434 rfl ?_
    refine lj_fg [5, 6] (lt := lj_l0 n0) rfl ?_
    exact k M2 hI
  · skip
    refine lj_aload_n (q := 382) dl_381 rfl rfl ?_
    refine lj_aload_n (q := 383) dl_382 rfl rfl ?_
    refine lj_iload (q := 385) dl_383 rfl rfl ?_
    refine lj_iconst (q := 386) (v := 1) dl_385 rfl (by decide) ?_
    refine lj_iadd (q := 387) dl_386 rfl ?_
    refine lj_sld (q := 388) (t := 1) dl_387 rfl hL9 (by omega) rfl ?_
    refine lj_aload_n (q := 389) dl_388 rfl rfl ?_
    refine lj_callH (q := 392) [] [.ref 0, .int (xs (n0 + 1)), .ref 102] dl_389 rfl lh_3 rfl (Nat.le_of_ble_eq_true rfl) (Nat.le_of_ble_eq_true rfl) (by omega) (by omega) (hX1_L_append lj_x lj_102 (xs (n0 + 1)) (c_X11_append lj_x F (xs (n0 + 1)) M (.inr "java/lang/IllegalArgumentException", M1) h1)) ?_
    refine lj_istore (q := 394) (lt := [some (.ref 103), some (.ref 0), some (.ref 80), some (.ref 102), some (.int (Int32.ofNat n0)), some (.int 1), none, none]) dl_392 rfl (Nat.le_of_ble_eq_true rfl) rfl rfl ?_
    refine lj_aload_n (q := 395) dl_394 rfl rfl ?_
    refine lj_aload_n (q := 396) dl_395 rfl rfl ?_
    refine lj_iload (q := 398) dl_396 rfl rfl ?_
    refine lj_iconst (q := 399) (v := 1) dl_398 rfl (by decide) ?_
    refine lj_iadd (q := 400) dl_399 rfl ?_
    refine lj_sld (q := 401) (t := 1) dl_400 rfl hL9 (by omega) rfl ?_
    refine lj_callV (q := 404) [] [.int (xs (n0 + 1))] dl_401 rfl lv_132 lj_80 rfl rfl rfl (Nat.le_of_ble_eq_true rfl) (Nat.le_of_ble_eq_true rfl) (by omega) (by omega) (c_X12_append lj_m G (xs (n0 + 1)) _ (w, M2) h2) ?_
    refine lj_istore (q := 406) (lt := [some (.ref 103), some (.ref 0), some (.ref 80), some (.ref 102), some (.int (Int32.ofNat n0)), some (.int 1), some (.int w), none]) dl_404 rfl (Nat.le_of_ble_eq_true rfl) rfl rfl ?_
    refine lj_aload_n (q := 407) dl_406 rfl rfl ?_
    refine lj_callV (q := 410) [] [] dl_407 rfl lv_118 lj_80 rfl rfl rfl (Nat.le_of_ble_eq_true rfl) (Nat.le_of_ble_eq_true rfl) (by omega) (by omega) (c_X12_thrown lj_m 0 M2 _ (th_thrown M2)) ?_
    refine lj_iload (q := 412) dl_410 rfl rfl ?_
    refine lj_icmp_eq (q := 415) (t := 417) dl_412 rfl rfl (fun _ => ?_) (fun h => absurd h3 h)
    refine lj_iload (q := 419) dl_417 rfl rfl ?_
    refine lj_if_ne (q := 422) (t := 434) dl_419 rfl rfl (fun _ => ?_) (fun h => absurd h (by decide))
    refine lj_goto (t := 1900) dl_434 rfl ?_
    refine lj_fg [5, 6] (lt := lj_l0 n0) rfl ?_
    exact k M2 hI
  · skip
    refine lj_aload_n (q := 382) dl_381 rfl rfl ?_
    refine lj_aload_n (q := 383) dl_382 rfl rfl ?_
    refine lj_iload (q := 385) dl_383 rfl rfl ?_
    refine lj_iconst (q := 386) (v := 1) dl_385 rfl (by decide) ?_
    refine lj_iadd (q := 387) dl_386 rfl ?_
    refine lj_sld (q := 388) (t := 1) dl_387 rfl hL9 (by omega) rfl ?_
    refine lj_aload_n (q := 389) dl_388 rfl rfl ?_
    refine lj_callH (q := 392) [] [.ref 0, .int (xs (n0 + 1)), .ref 102] dl_389 rfl lh_3 rfl (Nat.le_of_ble_eq_true rfl) (Nat.le_of_ble_eq_true rfl) (by omega) (by omega) (hX2_L_append lj_x lj_102 (xs (n0 + 1)) (c_X11_append lj_x F (xs (n0 + 1)) M (.inr "java/lang/IllegalStateException", M1) h1)) ?_
    refine lj_istore (q := 394) (lt := [some (.ref 103), some (.ref 0), some (.ref 80), some (.ref 102), some (.int (Int32.ofNat n0)), some (.int 2), none, none]) dl_392 rfl (Nat.le_of_ble_eq_true rfl) rfl rfl ?_
    refine lj_aload_n (q := 395) dl_394 rfl rfl ?_
    refine lj_aload_n (q := 396) dl_395 rfl rfl ?_
    refine lj_iload (q := 398) dl_396 rfl rfl ?_
    refine lj_iconst (q := 399) (v := 1) dl_398 rfl (by decide) ?_
    refine lj_iadd (q := 400) dl_399 rfl ?_
    refine lj_sld (q := 401) (t := 1) dl_400 rfl hL9 (by omega) rfl ?_
    refine lj_callV (q := 404) [] [.int (xs (n0 + 1))] dl_401 rfl lv_132 lj_80 rfl rfl rfl (Nat.le_of_ble_eq_true rfl) (Nat.le_of_ble_eq_true rfl) (by omega) (by omega) (c_X12_append lj_m G (xs (n0 + 1)) _ (w, M2) h2) ?_
    refine lj_istore (q := 406) (lt := [some (.ref 103), some (.ref 0), some (.ref 80), some (.ref 102), some (.int (Int32.ofNat n0)), some (.int 2), some (.int w), none]) dl_404 rfl (Nat.le_of_ble_eq_true rfl) rfl rfl ?_
    refine lj_aload_n (q := 407) dl_406 rfl rfl ?_
    refine lj_callV (q := 410) [] [] dl_407 rfl lv_118 lj_80 rfl rfl rfl (Nat.le_of_ble_eq_true rfl) (Nat.le_of_ble_eq_true rfl) (by omega) (by omega) (c_X12_thrown lj_m 0 M2 _ (th_thrown M2)) ?_
    refine lj_iload (q := 412) dl_410 rfl rfl ?_
    refine lj_icmp_eq (q := 415) (t := 417) dl_412 rfl rfl (fun _ => ?_) (fun h => absurd h3 h)
    refine lj_iload (q := 419) dl_417 rfl rfl ?_
    refine lj_if_ne (q := 422) (t := 434) dl_419 rfl rfl (fun _ => ?_) (fun h => absurd h (by decide))
    refine lj_goto (t := 1900) dl_434 rfl ?_
    refine lj_fg [5, 6] (lt := lj_l0 n0) rfl ?_
    exact k M2 hI
theorem lh_4 : lj_LH 133 yL_setSymbol md_L_setSymbol hh_L_setSymbol 4 := ⟨sm_w (List.mem_of_getElem? (i := 816) (by decide +kernel)) rfl, sm_w (List.mem_of_getElem? (i := 817) (by decide +kernel)) rfl, sm_w (List.mem_of_getElem? (i := 58) (by decide +kernel)) rfl, sm_w (List.mem_of_getElem? (i := 818) (by decide +kernel)) rfl, by decide, by decide +kernel, by decide +kernel⟩
theorem lv_135 : sm_LV RL 135 yX12_setSymbol md_X12_setSymbol 2 := ⟨sm_w (List.mem_of_getElem? (i := 1348) (by decide +kernel)) rfl, sm_w (List.mem_of_getElem? (i := 1349) (by decide +kernel)) rfl, sm_w (List.mem_of_getElem? (i := 1350) (by decide +kernel)) rfl, sm_w (List.mem_of_getElem? (i := 75) (by decide +kernel)) rfl, sm_w (List.mem_of_getElem? (i := 1351) (by decide +kernel)) rfl, by decide, by decide +kernel⟩
theorem lo_4 {L : Nat} {xs : Nat → Int32} {n0 nc ns : Nat} {M : sm_M} (hL9 : L ≤ 2048) (h4 : n0 + 4 ≤ L) (hnc : nc ≤ 599000) (hns : ns ≤ 6990000) {I : sm_M → Prop} (hp : lp_r (fun F M => f_X11_setSymbol F (xs (n0 + 1)) (xs (n0 + 2)) M) (fun F M => f_X12_setSymbol F (xs (n0 + 1)) (xs (n0 + 2)) M) I M ∨ lp_x "java/lang/IndexOutOfBoundsException" 1 (fun F M => f_X11_setSymbol F (xs (n0 + 1)) (xs (n0 + 2)) M) (fun F M => f_X12_setSymbol F (xs (n0 + 1)) (xs (n0 + 2)) M) I M ∨ lp_x "java/lang/IllegalArgumentException" 2 (fun F M => f_X11_setSymbol F (xs (n0 + 1)) (xs (n0 + 2)) M) (fun F M => f_X12_setSymbol F (xs (n0 + 1)) (xs (n0 + 2)) M) I M) (k : ∀ M2, I M2 → lj_J L xs 1900 (lj_l0 n0) [] M2 (nc + 1) (ns + 6)) : lj_J L xs 437 (lj_l0 n0) [] M nc ns := by
  rcases hp with ⟨F, G, v, M1, M2, h1, h2, h3, h5, hI⟩ | ⟨F, G, w, M1, M2, h1, h2, h3, hI⟩ | ⟨F, G, w, M1, M2, h1, h2, h3, hI⟩
  · skip
    refine lj_aload_n (q := 438) dl_437 rfl rfl ?_
    refine lj_aload_n (q := 439) dl_438 rfl rfl ?_
    refine lj_iload (q := 441) dl_439 rfl rfl ?_
    refine lj_iconst (q := 442) (v := 1) dl_441 rfl (by decide) ?_
    refine lj_iadd (q := 443) dl_442 rfl ?_
    refine lj_sld (q := 444) (t := 1) dl_443 rfl hL9 (by omega) rfl ?_
    refine lj_aload_n (q := 445) dl_444 rfl rfl ?_
    refine lj_iload (q := 447) dl_445 rfl rfl ?_
    refine lj_iconst (q := 448) (v := 2) dl_447 rfl (by decide) ?_
    refine lj_iadd (q := 449) dl_448 rfl ?_
    refine lj_sld (q := 450) (t := 2) dl_449 rfl hL9 (by omega) rfl ?_
    refine lj_aload_n (q := 451) dl_450 rfl rfl ?_
    refine lj_callH (q := 454) [] [.ref 0, .int (xs (n0 + 1)), .int (xs (n0 + 2)), .ref 102] dl_451 rfl lh_4 rfl (Nat.le_of_ble_eq_true rfl) (Nat.le_of_ble_eq_true rfl) (by omega) (by omega) (hR_L_setSymbol lj_x lj_102 (xs (n0 + 1)) (xs (n0 + 2)) (c_X11_setSymbol lj_x F (xs (n0 + 1)) (xs (n0 + 2)) M (.inl (some (.int v)), M1) h1)) ?_
    refine lj_istore (q := 456) (lt := [some (.ref 103), some (.ref 0), some (.ref 80), some (.ref 102), some (.int (Int32.ofNat n0)), some (.int 0), none, none]) dl_454 rfl (Nat.le_of_ble_eq_true rfl) rfl rfl ?_
    refine lj_aload_n (q := 457) dl_456 rfl rfl ?_
    refine lj_aload_n (q := 458) dl_457 rfl rfl ?_
    refine lj_iload (q := 460) dl_458 rfl rfl ?_
    refine lj_iconst (q := 461) (v := 1) dl_460 rfl (by decide) ?_
    refine lj_iadd (q := 462) dl_461 rfl ?_
    refine lj_sld (q := 463) (t := 1) dl_462 rfl hL9 (by omega) rfl ?_
    refine lj_aload_n (q := 464) dl_463 rfl rfl ?_
    refine lj_iload (q := 466) dl_464 rfl rfl ?_
    refine lj_iconst (q := 467) (v := 2) dl_466 rfl (by decide) ?_
    refine lj_iadd (q := 468) dl_467 rfl ?_
    refine lj_sld (q := 469) (t := 2) dl_468 rfl hL9 (by omega) rfl ?_
    refine lj_callV (q := 472) [] [.int (xs (n0 + 1)), .int (xs (n0 + 2))] dl_469 rfl lv_135 lj_80 rfl rfl rfl (Nat.le_of_ble_eq_true rfl) (Nat.le_of_ble_eq_true rfl) (by omega) (by omega) (c_X12_setSymbol lj_m G (xs (n0 + 1)) (xs (n0 + 2)) _ (v, M2) h2) ?_
    refine lj_istore (q := 474) (lt := [some (.ref 103), some (.ref 0), some (.ref 80), some (.ref 102), some (.int (Int32.ofNat n0)), some (.int 0), some (.int v), none]) dl_472 rfl (Nat.le_of_ble_eq_true rfl) rfl rfl ?_
    refine lj_aload_n (q := 475) dl_474 rfl rfl ?_
    refine lj_callV (q := 478) [] [] dl_475 rfl lv_118 lj_80 rfl rfl rfl (Nat.le_of_ble_eq_true rfl) (Nat.le_of_ble_eq_true rfl) (by omega) (by omega) (c_X12_thrown lj_m 0 M2 _ (th_thrown M2)) ?_
    refine lj_iload (q := 480) dl_478 rfl rfl ?_
    refine lj_icmp_eq (q := 483) (t := 485) dl_480 rfl rfl (fun _ => ?_) (fun h => absurd h3 h)
    refine lj_iload (q := 487) dl_485 rfl rfl ?_
    refine lj_if_ne (q := 490) (t := 502) dl_487 rfl rfl (fun h => absurd rfl h) (fun _ => ?_)
    refine lj_aload_n (q := 491) dl_490 rfl rfl ?_
    refine lj_iconst (q := 492) (v := 0) dl_491 rfl (by decide) ?_
    refine lj_laload (q := 493) dl_492 rfl lj_102 (sm_ib_of rfl) ?_
    refine lj_iload (q := 495) dl_493 rfl rfl ?_
    refine lj_i2l (q := 496) dl_495 rfl ?_
    refine lj_lcmp (q := 497) dl_496 rfl ?_
    refine lj_if_eq (q := 500) (t := 502) dl_497 rfl rfl (fun _ => ?_) (fun h => absurd (lj_cmp1 h5) h)
    refine lj_goto (t := 1900) dl_502 rfl ?_
    refine lj_fg [5, 6] (lt := lj_l0 n0) rfl ?_
    exact k M2 hI
  · skip
    refine lj_aload_n (q := 438) dl_437 rfl rfl ?_
    refine lj_aload_n (q := 439) dl_438 rfl rfl ?_
    refine lj_iload (q := 441) dl_439 rfl rfl ?_
    refine lj_iconst (q := 442) (v := 1) dl_441 rfl (by decide) ?_
    refine lj_iadd (q := 443) dl_442 rfl ?_
    refine lj_sld (q := 444) (t := 1) dl_443 rfl hL9 (by omega) rfl ?_
    refine lj_aload_n (q := 445) dl_444 rfl rfl ?_
    refine lj_iload (q := 447) dl_445 rfl rfl ?_
    refine lj_iconst (q := 448) (v := 2) dl_447 rfl (by decide) ?_
    refine lj_iadd (q := 449) dl_448 rfl ?_
    refine lj_sld (q := 450) (t := 2) dl_449 rfl hL9 (by omega) rfl ?_
    refine lj_aload_n (q := 451) dl_450 rfl rfl ?_
    refine lj_callH (q := 454) [] [.ref 0, .int (xs (n0 + 1)), .int (xs (n0 + 2)), .ref 102] dl_451 rfl lh_4 rfl (Nat.le_of_ble_eq_true rfl) (Nat.le_of_ble_eq_true rfl) (by omega) (by omega) (hX1_L_setSymbol lj_x lj_102 (xs (n0 + 1)) (xs (n0 + 2)) (c_X11_setSymbol lj_x F (xs (n0 + 1)) (xs (n0 + 2)) M (.inr "java/lang/IndexOutOfBoundsException", M1) h1)) ?_
    refine lj_istore (q := 456) (lt := [some (.ref 103), some (.ref 0), some (.ref 80), some (.ref 102), some (.int (Int32.ofNat n0)), some (.int 1), none, none]) dl_454 rfl (Nat.le_of_ble_eq_true rfl) rfl rfl ?_
    refine lj_aload_n (q := 457) dl_456 rfl rfl ?_
    refine lj_aload_n (q := 458) dl_457 rfl rfl ?_
    refine lj_iload (q := 460) dl_458 rfl rfl ?_
    refine lj_iconst (q := 461) (v := 1) dl_460 rfl (by decide) ?_
    refine lj_iadd (q := 462) dl_461 rfl ?_
    refine lj_sld (q := 463) (t := 1) dl_462 rfl hL9 (by omega) rfl ?_
    refine lj_aload_n (q := 464) dl_463 rfl rfl ?_
    refine lj_iload (q := 466) dl_464 rfl rfl ?_
    refine lj_iconst (q := 467) (v := 2) dl_466 rfl (by decide) ?_
    refine lj_iadd (q := 468) dl_467 rfl ?_
    refine lj_sld (q := 469) (t := 2) dl_468 rfl hL9 (by omega) rfl ?_
    refine lj_callV (q := 472) [] [.int (xs (n0 + 1)), .int (xs (n0 + 2))] dl_469 rfl lv_135 lj_80 rfl rfl rfl (Nat.le_of_ble_eq_true rfl) (Nat.le_of_ble_eq_true rfl) (by omega) (by omega) (c_X12_setSymbol lj_m G (xs (n0 + 1)) (xs (n0 + 2)) _ (w, M2) h2) ?_
    refine lj_istore (q := 474) (lt := [some (.ref 103), some (.ref 0), some (.ref 80), some (.ref 102), some (.int (Int32.ofNat n0)), some (.int 1), some (.int w), none]) dl_472 rfl (Nat.le_of_ble_eq_true rfl) rfl rfl ?_
    refine lj_aload_n (q := 475) dl_474 rfl rfl ?_
    refine lj_callV (q := 478) [] [] dl_475 rfl lv_118 lj_80 rfl rfl rfl (Nat.le_of_ble_eq_true rfl) (Nat.le_of_ble_eq_true rfl) (by omega) (by omega) (c_X12_thrown lj_m 0 M2 _ (th_thrown M2)) ?_
    refine lj_iload (q := 480) dl_478 rfl rfl ?_
    refine lj_icmp_eq (q := 483) (t := 485) dl_480 rfl rfl (fun _ => ?_) (fun h => absurd h3 h)
    refine lj_iload (q := 487) dl_485 rfl rfl ?_
    refine lj_if_ne (q := 490) (t := 502) dl_487 rfl rfl (fun _ => ?_) (fun h => absurd h (by decide))
    refine lj_goto (t := 1900) dl_502 rfl ?_
    refine lj_fg [5, 6] (lt := lj_l0 n0) rfl ?_
    exact k M2 hI
  · skip
    refine lj_aload_n (q := 438) dl_437 rfl rfl ?_
    refine lj_aload_n (q := 439) dl_438 rfl rfl ?_
    refine lj_iload (q := 441) dl_439 rfl rfl ?_
    refine lj_iconst (q := 442) (v := 1) dl_441 rfl (by decide) ?_
    refine lj_iadd (q := 443) dl_442 rfl ?_
    refine lj_sld (q := 444) (t := 1) dl_443 rfl hL9 (by omega) rfl ?_
    refine lj_aload_n (q := 445) dl_444 rfl rfl ?_
    refine lj_iload (q := 447) dl_445 rfl rfl ?_
    refine lj_iconst (q := 448) (v := 2) dl_447 rfl (by decide) ?_
    refine lj_iadd (q := 449) dl_448 rfl ?_
    refine lj_sld (q := 450) (t := 2) dl_449 rfl hL9 (by omega) rfl ?_
    refine lj_aload_n (q := 451) dl_450 rfl rfl ?_
    refine lj_callH (q := 454) [] [.ref 0, .int (xs (n0 + 1)), .int (xs (n0 + 2)), .ref 102] dl_451 rfl lh_4 rfl (Nat.le_of_ble_eq_true rfl) (Nat.le_of_ble_eq_true rfl) (by omega) (by omega) (hX2_L_setSymbol lj_x lj_102 (xs (n0 + 1)) (xs (n0 + 2)) (c_X11_setSymbol lj_x F (xs (n0 + 1)) (xs (n0 + 2)) M (.inr "java/lang/IllegalArgumentException", M1) h1)) ?_
    refine lj_istore (q := 456) (lt := [some (.ref 103), some (.ref 0), some (.ref 80), some (.ref 102), some (.int (Int32.ofNat n0)), some (.int 2), none, none]) dl_454 rfl (Nat.le_of_ble_eq_true rfl) rfl rfl ?_
    refine lj_aload_n (q := 457) dl_456 rfl rfl ?_
    refine lj_aload_n (q := 458) dl_457 rfl rfl ?_
    refine lj_iload (q := 460) dl_458 rfl rfl ?_
    refine lj_iconst (q := 461) (v := 1) dl_460 rfl (by decide) ?_
    refine lj_iadd (q := 462) dl_461 rfl ?_
    refine lj_sld (q := 463) (t := 1) dl_462 rfl hL9 (by omega) rfl ?_
    refine lj_aload_n (q := 464) dl_463 rfl rfl ?_
    refine lj_iload (q := 466) dl_464 rfl rfl ?_
    refine lj_iconst (q := 467) (v := 2) dl_466 rfl (by decide) ?_
    refine lj_iadd (q := 468) dl_467 rfl ?_
    refine lj_sld (q := 469) (t := 2) dl_468 rfl hL9 (by omega) rfl ?_
    refine lj_callV (q := 472) [] [.int (xs (n0 + 1)), .int (xs (n0 + 2))] dl_469 rfl lv_135 lj_80 rfl rfl rfl (Nat.le_of_ble_eq_true rfl) (Nat.le_of_ble_eq_true rfl) (by omega) (by omega) (c_X12_setSymbol lj_m G (xs (n0 + 1)) (xs (n0 + 2)) _ (w, M2) h2) ?_
    refine lj_istore (q := 474) (lt := [some (.ref 103), some (.ref 0), some (.ref 80), some (.ref 102), some (.int (Int32.ofNat n0)), some (.int 2), some (.int w), none]) dl_472 rfl (Nat.le_of_ble_eq_true rfl) rfl rfl ?_
    refine lj_aload_n (q := 475) dl_474 rfl rfl ?_
    refine lj_callV (q := 478) [] [] dl_475 rfl lv_118 lj_80 rfl rfl rfl (Nat.le_of_ble_eq_true rfl) (Nat.le_of_ble_eq_true rfl) (by omega) (by omega) (c_X12_thrown lj_m 0 M2 _ (th_thrown M2)) ?_
    refine lj_iload (q := 480) dl_478 rfl rfl ?_
    refine lj_icmp_eq (q := 483) (t := 485) dl_480 rfl rfl (fun _ => ?_) (fun h => absurd h3 h)
    refine lj_iload (q := 487) dl_485 rfl rfl ?_
    refine lj_if_ne (q := 490) (t := 502) dl_487 rfl rfl (fun _ => ?_) (fun h => absurd h (by decide))
    refine lj_goto (t := 1900) dl_502 rfl ?_
    refine lj_fg [5, 6] (lt := lj_l0 n0) rfl ?_
    exact k M2 hI
theorem lh_5 : lj_LH 136 yL_symbolAt md_L_symbolAt hh_L_symbolAt 3 := ⟨sm_w (List.mem_of_getElem? (i := 828) (by decide +kernel)) rfl, sm_w (List.mem_of_getElem? (i := 829) (by decide +kernel)) rfl, sm_w (List.mem_of_getElem? (i := 58) (by decide +kernel)) rfl, sm_w (List.mem_of_getElem? (i := 830) (by decide +kernel)) rfl, by decide, by decide +kernel, by decide +kernel⟩
theorem lv_138 : sm_LV RL 138 yX12_symbolAt md_X12_symbolAt 1 := ⟨sm_w (List.mem_of_getElem? (i := 1356) (by decide +kernel)) rfl, sm_w (List.mem_of_getElem? (i := 1357) (by decide +kernel)) rfl, sm_w (List.mem_of_getElem? (i := 1358) (by decide +kernel)) rfl, sm_w (List.mem_of_getElem? (i := 75) (by decide +kernel)) rfl, sm_w (List.mem_of_getElem? (i := 1359) (by decide +kernel)) rfl, by decide, by decide +kernel⟩
theorem lo_5 {L : Nat} {xs : Nat → Int32} {n0 nc ns : Nat} {M : sm_M} (hL9 : L ≤ 2048) (h4 : n0 + 4 ≤ L) (hnc : nc ≤ 599000) (hns : ns ≤ 6990000) {I : sm_M → Prop} (hp : lp_r (fun F M => f_X11_symbolAt F (xs (n0 + 1)) M) (fun F M => f_X12_symbolAt F (xs (n0 + 1)) M) I M ∨ lp_x "java/lang/IndexOutOfBoundsException" 1 (fun F M => f_X11_symbolAt F (xs (n0 + 1)) M) (fun F M => f_X12_symbolAt F (xs (n0 + 1)) M) I M) (k : ∀ M2, I M2 → lj_J L xs 1900 (lj_l0 n0) [] M2 (nc + 1) (ns + 6)) : lj_J L xs 505 (lj_l0 n0) [] M nc ns := by
  rcases hp with ⟨F, G, v, M1, M2, h1, h2, h3, h5, hI⟩ | ⟨F, G, w, M1, M2, h1, h2, h3, hI⟩
  · skip
    refine lj_aload_n (q := 506) dl_505 rfl rfl ?_
    refine lj_aload_n (q := 507) dl_506 rfl rfl ?_
    refine lj_iload (q := 509) dl_507 rfl rfl ?_
    refine lj_iconst (q := 510) (v := 1) dl_509 rfl (by decide) ?_
    refine lj_iadd (q := 511) dl_510 rfl ?_
    refine lj_sld (q := 512) (t := 1) dl_511 rfl hL9 (by omega) rfl ?_
    refine lj_aload_n (q := 513) dl_512 rfl rfl ?_
    refine lj_callH (q := 516) [] [.ref 0, .int (xs (n0 + 1)), .ref 102] dl_513 rfl lh_5 rfl (Nat.le_of_ble_eq_true rfl) (Nat.le_of_ble_eq_true rfl) (by omega) (by omega) (hR_L_symbolAt lj_x lj_102 (xs (n0 + 1)) (c_X11_symbolAt lj_x F (xs (n0 + 1)) M (.inl (some (.int v)), M1) h1)) ?_
    refine lj_istore (q := 518) (lt := [some (.ref 103), some (.ref 0), some (.ref 80), some (.ref 102), some (.int (Int32.ofNat n0)), some (.int 0), none, none]) dl_516 rfl (Nat.le_of_ble_eq_true rfl) rfl rfl ?_
    refine lj_aload_n (q := 519) dl_518 rfl rfl ?_
    refine lj_aload_n (q := 520) dl_519 rfl rfl ?_
    refine lj_iload (q := 522) dl_520 rfl rfl ?_
    refine lj_iconst (q := 523) (v := 1) dl_522 rfl (by decide) ?_
    refine lj_iadd (q := 524) dl_523 rfl ?_
    refine lj_sld (q := 525) (t := 1) dl_524 rfl hL9 (by omega) rfl ?_
    refine lj_callV (q := 528) [] [.int (xs (n0 + 1))] dl_525 rfl lv_138 lj_80 rfl rfl rfl (Nat.le_of_ble_eq_true rfl) (Nat.le_of_ble_eq_true rfl) (by omega) (by omega) (c_X12_symbolAt lj_m G (xs (n0 + 1)) _ (v, M2) h2) ?_
    refine lj_istore (q := 530) (lt := [some (.ref 103), some (.ref 0), some (.ref 80), some (.ref 102), some (.int (Int32.ofNat n0)), some (.int 0), some (.int v), none]) dl_528 rfl (Nat.le_of_ble_eq_true rfl) rfl rfl ?_
    refine lj_aload_n (q := 531) dl_530 rfl rfl ?_
    refine lj_callV (q := 534) [] [] dl_531 rfl lv_118 lj_80 rfl rfl rfl (Nat.le_of_ble_eq_true rfl) (Nat.le_of_ble_eq_true rfl) (by omega) (by omega) (c_X12_thrown lj_m 0 M2 _ (th_thrown M2)) ?_
    refine lj_iload (q := 536) dl_534 rfl rfl ?_
    refine lj_icmp_eq (q := 539) (t := 541) dl_536 rfl rfl (fun _ => ?_) (fun h => absurd h3 h)
    refine lj_iload (q := 543) dl_541 rfl rfl ?_
    refine lj_if_ne (q := 546) (t := 558) dl_543 rfl rfl (fun h => absurd rfl h) (fun _ => ?_)
    refine lj_aload_n (q := 547) dl_546 rfl rfl ?_
    refine lj_iconst (q := 548) (v := 0) dl_547 rfl (by decide) ?_
    refine lj_laload (q := 549) dl_548 rfl lj_102 (sm_ib_of rfl) ?_
    refine lj_iload (q := 551) dl_549 rfl rfl ?_
    refine lj_i2l (q := 552) dl_551 rfl ?_
    refine lj_lcmp (q := 553) dl_552 rfl ?_
    refine lj_if_eq (q := 556) (t := 558) dl_553 rfl rfl (fun _ => ?_) (fun h => absurd (lj_cmp1 h5) h)
    refine lj_goto (t := 1900) dl_558 rfl ?_
    refine lj_fg [5, 6] (lt := lj_l0 n0) rfl ?_
    exact k M2 hI
  · skip
    refine lj_aload_n (q := 506) dl_505 rfl rfl ?_
    refine lj_aload_n (q := 507) dl_506 rfl rfl ?_
    refine lj_iload (q := 509) dl_507 rfl rfl ?_
    refine lj_iconst (q := 510) (v := 1) dl_509 rfl (by decide) ?_
    refine lj_iadd (q := 511) dl_510 rfl ?_
    refine lj_sld (q := 512) (t := 1) dl_511 rfl hL9 (by omega) rfl ?_
    refine lj_aload_n (q := 513) dl_512 rfl rfl ?_
    refine lj_callH (q := 516) [] [.ref 0, .int (xs (n0 + 1)), .ref 102] dl_513 rfl lh_5 rfl (Nat.le_of_ble_eq_true rfl) (Nat.le_of_ble_eq_true rfl) (by omega) (by omega) (hX1_L_symbolAt lj_x lj_102 (xs (n0 + 1)) (c_X11_symbolAt lj_x F (xs (n0 + 1)) M (.inr "java/lang/IndexOutOfBoundsException", M1) h1)) ?_
    refine lj_istore (q := 518) (lt := [some (.ref 103), some (.ref 0), some (.ref 80), some (.ref 102), some (.int (Int32.ofNat n0)), some (.int 1), none, none]) dl_516 rfl (Nat.le_of_ble_eq_true rfl) rfl rfl ?_
    refine lj_aload_n (q := 519) dl_518 rfl rfl ?_
    refine lj_aload_n (q := 520) dl_519 rfl rfl ?_
    refine lj_iload (q := 522) dl_520 rfl rfl ?_
    refine lj_iconst (q := 523) (v := 1) dl_522 rfl (by decide) ?_
    refine lj_iadd (q := 524) dl_523 rfl ?_
    refine lj_sld (q := 525) (t := 1) dl_524 rfl hL9 (by omega) rfl ?_
    refine lj_callV (q := 528) [] [.int (xs (n0 + 1))] dl_525 rfl lv_138 lj_80 rfl rfl rfl (Nat.le_of_ble_eq_true rfl) (Nat.le_of_ble_eq_true rfl) (by omega) (by omega) (c_X12_symbolAt lj_m G (xs (n0 + 1)) _ (w, M2) h2) ?_
    refine lj_istore (q := 530) (lt := [some (.ref 103), some (.ref 0), some (.ref 80), some (.ref 102), some (.int (Int32.ofNat n0)), some (.int 1), some (.int w), none]) dl_528 rfl (Nat.le_of_ble_eq_true rfl) rfl rfl ?_
    refine lj_aload_n (q := 531) dl_530 rfl rfl ?_
    refine lj_callV (q := 534) [] [] dl_531 rfl lv_118 lj_80 rfl rfl rfl (Nat.le_of_ble_eq_true rfl) (Nat.le_of_ble_eq_true rfl) (by omega) (by omega) (c_X12_thrown lj_m 0 M2 _ (th_thrown M2)) ?_
    refine lj_iload (q := 536) dl_534 rfl rfl ?_
    refine lj_icmp_eq (q := 539) (t := 541) dl_536 rfl rfl (fun _ => ?_) (fun h => absurd h3 h)
    refine lj_iload (q := 543) dl_541 rfl rfl ?_
    refine lj_if_ne (q := 546) (t := 558) dl_543 rfl rfl (fun _ => ?_) (fun h => absurd h (by decide))
    refine lj_goto (t := 1900) dl_558 rfl ?_
    refine lj_fg [5, 6] (lt := lj_l0 n0) rfl ?_
    exact k M2 hI
theorem lv_139 : sm_LV RL 139 yX11_length md_X11_length 0 := ⟨sm_w (List.mem_of_getElem? (i := 510) (by decide +kernel)) rfl, sm_w (List.mem_of_getElem? (i := 511) (by decide +kernel)) rfl, sm_w (List.mem_of_getElem? (i := 512) (by decide +kernel)) rfl, sm_w (List.mem_of_getElem? (i := 59) (by decide +kernel)) rfl, sm_w (List.mem_of_getElem? (i := 513) (by decide +kernel)) rfl, by decide, by decide +kernel⟩
theorem lv_142 : sm_LV RL 142 yX12_length md_X12_length 0 := ⟨sm_w (List.mem_of_getElem? (i := 1360) (by decide +kernel)) rfl, sm_w (List.mem_of_getElem? (i := 1361) (by decide +kernel)) rfl, sm_w (List.mem_of_getElem? (i := 1362) (by decide +kernel)) rfl, sm_w (List.mem_of_getElem? (i := 75) (by decide +kernel)) rfl, sm_w (List.mem_of_getElem? (i := 1363) (by decide +kernel)) rfl, by decide, by decide +kernel⟩
theorem lo_6 {L : Nat} {xs : Nat → Int32} {n0 nc ns : Nat} {M : sm_M} (hL9 : L ≤ 2048) (h4 : n0 + 4 ≤ L) (hnc : nc ≤ 599000) (hns : ns ≤ 6990000) {I : sm_M → Prop} (hp : lp_d0 (fun F M => f_X11_length F M) (fun F M => f_X12_length F M) I M) (k : ∀ M2, I M2 → lj_J L xs 1900 (lj_l0 n0) [] M2 (nc + 1) (ns + 6)) : lj_J L xs 561 (lj_l0 n0) [] M nc ns := by
  obtain ⟨F, G, v, M2, h1, h2, hI⟩ := hp
  refine lj_aload_n (q := 562) dl_561 rfl rfl ?_
  refine lj_callV (q := 565) [] [] dl_562 rfl lv_139 lj_0 rfl rfl rfl (Nat.le_of_ble_eq_true rfl) (Nat.le_of_ble_eq_true rfl) (by omega) (by omega) (c_X11_length lj_x F M v h1) ?_
  refine lj_aload_n (q := 566) dl_565 rfl rfl ?_
  refine lj_callV (q := 569) [.int v] [] dl_566 rfl lv_142 lj_80 rfl rfl rfl (Nat.le_of_ble_eq_true rfl) (Nat.le_of_ble_eq_true rfl) (by omega) (by omega) (c_X12_length lj_m G _ (v, M2) h2) ?_
  refine lj_icmp_eq (q := 572) (t := 1900) dl_569 rfl rfl (fun _ => ?_) (fun h => absurd rfl h)
  exact lj_wide (Nat.le_add_right _ _) (Nat.le_add_right _ _) (k M2 hI)
theorem lv_143 : sm_LV RL 143 yX11_clear md_X11_clear 0 := ⟨sm_w (List.mem_of_getElem? (i := 514) (by decide +kernel)) rfl, sm_w (List.mem_of_getElem? (i := 515) (by decide +kernel)) rfl, sm_w (List.mem_of_getElem? (i := 516) (by decide +kernel)) rfl, sm_w (List.mem_of_getElem? (i := 59) (by decide +kernel)) rfl, sm_w (List.mem_of_getElem? (i := 517) (by decide +kernel)) rfl, by decide, by decide +kernel⟩
theorem lv_146 : sm_LV RL 146 yX12_clear md_X12_clear 0 := ⟨sm_w (List.mem_of_getElem? (i := 1364) (by decide +kernel)) rfl, sm_w (List.mem_of_getElem? (i := 1365) (by decide +kernel)) rfl, sm_w (List.mem_of_getElem? (i := 1366) (by decide +kernel)) rfl, sm_w (List.mem_of_getElem? (i := 75) (by decide +kernel)) rfl, sm_w (List.mem_of_getElem? (i := 1367) (by decide +kernel)) rfl, by decide, by decide +kernel⟩
theorem lo_7 {L : Nat} {xs : Nat → Int32} {n0 nc ns : Nat} {M : sm_M} (hL9 : L ≤ 2048) (h4 : n0 + 4 ≤ L) (hnc : nc ≤ 599000) (hns : ns ≤ 6990000) {I : sm_M → Prop} (hp : lp_d (fun F M => f_X11_clear F M) (fun F M => f_X12_clear F M) I M) (k : ∀ M2, I M2 → lj_J L xs 1900 (lj_l0 n0) [] M2 (nc + 1) (ns + 6)) : lj_J L xs 574 (lj_l0 n0) [] M nc ns := by
  obtain ⟨F, G, v, M1, M2, h1, h2, hI⟩ := hp
  refine lj_aload_n (q := 575) dl_574 rfl rfl ?_
  refine lj_callV (q := 578) [] [] dl_575 rfl lv_143 lj_0 rfl rfl rfl (Nat.le_of_ble_eq_true rfl) (Nat.le_of_ble_eq_true rfl) (by omega) (by omega) (c_X11_clear lj_x F M (v, M1) h1) ?_
  refine lj_aload_n (q := 579) dl_578 rfl rfl ?_
  refine lj_callV (q := 582) [.int v] [] dl_579 rfl lv_146 lj_80 rfl rfl rfl (Nat.le_of_ble_eq_true rfl) (Nat.le_of_ble_eq_true rfl) (by omega) (by omega) (c_X12_clear lj_m G _ (v, M2) h2) ?_
  refine lj_icmp_eq (q := 585) (t := 1900) dl_582 rfl rfl (fun _ => ?_) (fun h => absurd rfl h)
  exact lj_wide (Nat.le_add_right _ _) (Nat.le_add_right _ _) (k M2 hI)
theorem lh_8 : lj_LH 147 yL_undo md_L_undo hh_L_undo 2 := ⟨sm_w (List.mem_of_getElem? (i := 835) (by decide +kernel)) rfl, sm_w (List.mem_of_getElem? (i := 836) (by decide +kernel)) rfl, sm_w (List.mem_of_getElem? (i := 58) (by decide +kernel)) rfl, sm_w (List.mem_of_getElem? (i := 837) (by decide +kernel)) rfl, by decide, by decide +kernel, by decide +kernel⟩
theorem lv_150 : sm_LV RL 150 yX12_undo md_X12_undo 0 := ⟨sm_w (List.mem_of_getElem? (i := 1372) (by decide +kernel)) rfl, sm_w (List.mem_of_getElem? (i := 1373) (by decide +kernel)) rfl, sm_w (List.mem_of_getElem? (i := 1374) (by decide +kernel)) rfl, sm_w (List.mem_of_getElem? (i := 75) (by decide +kernel)) rfl, sm_w (List.mem_of_getElem? (i := 1375) (by decide +kernel)) rfl, by decide, by decide +kernel⟩
theorem lo_8 {L : Nat} {xs : Nat → Int32} {n0 nc ns : Nat} {M : sm_M} (hL9 : L ≤ 2048) (h4 : n0 + 4 ≤ L) (hnc : nc ≤ 599000) (hns : ns ≤ 6990000) {I : sm_M → Prop} (hp : lp_r (fun F M => f_X11_undo F M) (fun F M => f_X12_undo F M) I M ∨ lp_x "java/util/NoSuchElementException" 1 (fun F M => f_X11_undo F M) (fun F M => f_X12_undo F M) I M) (k : ∀ M2, I M2 → lj_J L xs 1900 (lj_l0 n0) [] M2 (nc + 1) (ns + 6)) : lj_J L xs 587 (lj_l0 n0) [] M nc ns := by
  rcases hp with ⟨F, G, v, M1, M2, h1, h2, h3, h5, hI⟩ | ⟨F, G, w, M1, M2, h1, h2, h3, hI⟩
  · skip
    refine lj_aload_n (q := 588) dl_587 rfl rfl ?_
    refine lj_aload_n (q := 589) dl_588 rfl rfl ?_
    refine lj_callH (q := 592) [] [.ref 0, .ref 102] dl_589 rfl lh_8 rfl (Nat.le_of_ble_eq_true rfl) (Nat.le_of_ble_eq_true rfl) (by omega) (by omega) (hR_L_undo lj_x lj_102 (c_X11_undo lj_x F M (.inl (some (.int v)), M1) h1)) ?_
    refine lj_istore (q := 594) (lt := [some (.ref 103), some (.ref 0), some (.ref 80), some (.ref 102), some (.int (Int32.ofNat n0)), some (.int 0), none, none]) dl_592 rfl (Nat.le_of_ble_eq_true rfl) rfl rfl ?_
    refine lj_aload_n (q := 595) dl_594 rfl rfl ?_
    refine lj_callV (q := 598) [] [] dl_595 rfl lv_150 lj_80 rfl rfl rfl (Nat.le_of_ble_eq_true rfl) (Nat.le_of_ble_eq_true rfl) (by omega) (by omega) (c_X12_undo lj_m G _ (v, M2) h2) ?_
    refine lj_istore (q := 600) (lt := [some (.ref 103), some (.ref 0), some (.ref 80), some (.ref 102), some (.int (Int32.ofNat n0)), some (.int 0), some (.int v), none]) dl_598 rfl (Nat.le_of_ble_eq_true rfl) rfl rfl ?_
    refine lj_aload_n (q := 601) dl_600 rfl rfl ?_
    refine lj_callV (q := 604) [] [] dl_601 rfl lv_118 lj_80 rfl rfl rfl (Nat.le_of_ble_eq_true rfl) (Nat.le_of_ble_eq_true rfl) (by omega) (by omega) (c_X12_thrown lj_m 0 M2 _ (th_thrown M2)) ?_
    refine lj_iload (q := 606) dl_604 rfl rfl ?_
    refine lj_icmp_eq (q := 609) (t := 611) dl_606 rfl rfl (fun _ => ?_) (fun h => absurd h3 h)
    refine lj_iload (q := 613) dl_611 rfl rfl ?_
    refine lj_if_ne (q := 616) (t := 628) dl_613 rfl rfl (fun h => absurd rfl h) (fun _ => ?_)
    refine lj_aload_n (q := 617) dl_616 rfl rfl ?_
    refine lj_iconst (q := 618) (v := 0) dl_617 rfl (by decide) ?_
    refine lj_laload (q := 619) dl_618 rfl lj_102 (sm_ib_of rfl) ?_
    refine lj_iload (q := 621) dl_619 rfl rfl ?_
    refine lj_i2l (q := 622) dl_621 rfl ?_
    refine lj_lcmp (q := 623) dl_622 rfl ?_
    refine lj_if_eq (q := 626) (t := 628) dl_623 rfl rfl (fun _ => ?_) (fun h => absurd (lj_cmp1 h5) h)
    refine lj_goto (t := 1900) dl_628 rfl ?_
    refine lj_fg [5, 6] (lt := lj_l0 n0) rfl ?_
    exact k M2 hI
  · skip
    refine lj_aload_n (q := 588) dl_587 rfl rfl ?_
    refine lj_aload_n (q := 589) dl_588 rfl rfl ?_
    refine lj_callH (q := 592) [] [.ref 0, .ref 102] dl_589 rfl lh_8 rfl (Nat.le_of_ble_eq_true rfl) (Nat.le_of_ble_eq_true rfl) (by omega) (by omega) (hX1_L_undo lj_x lj_102 (c_X11_undo lj_x F M (.inr "java/util/NoSuchElementException", M1) h1)) ?_
    refine lj_istore (q := 594) (lt := [some (.ref 103), some (.ref 0), some (.ref 80), some (.ref 102), some (.int (Int32.ofNat n0)), some (.int 1), none, none]) dl_592 rfl (Nat.le_of_ble_eq_true rfl) rfl rfl ?_
    refine lj_aload_n (q := 595) dl_594 rfl rfl ?_
    refine lj_callV (q := 598) [] [] dl_595 rfl lv_150 lj_80 rfl rfl rfl (Nat.le_of_ble_eq_true rfl) (Nat.le_of_ble_eq_true rfl) (by omega) (by omega) (c_X12_undo lj_m G _ (w, M2) h2) ?_
    refine lj_istore (q := 600) (lt := [some (.ref 103), some (.ref 0), some (.ref 80), some (.ref 102), some (.int (Int32.ofNat n0)), some (.int 1), some (.int w), none]) dl_598 rfl (Nat.le_of_ble_eq_true rfl) rfl rfl ?_
    refine lj_aload_n (q := 601) dl_600 rfl rfl ?_
    refine lj_callV (q := 604) [] [] dl_601 rfl lv_118 lj_80 rfl rfl rfl (Nat.le_of_ble_eq_true rfl) (Nat.le_of_ble_eq_true rfl) (by omega) (by omega) (c_X12_thrown lj_m 0 M2 _ (th_thrown M2)) ?_
    refine lj_iload (q := 606) dl_604 rfl rfl ?_
    refine lj_icmp_eq (q := 609) (t := 611) dl_606 rfl rfl (fun _ => ?_) (fun h => absurd h3 h)
    refine lj_iload (q := 613) dl_611 rfl rfl ?_
    refine lj_if_ne (q := 616) (t := 628) dl_613 rfl rfl (fun _ => ?_) (fun h => absurd h (by decide))
    refine lj_goto (t := 1900) dl_628 rfl ?_
    refine lj_fg [5, 6] (lt := lj_l0 n0) rfl ?_
    exact k M2 hI
theorem lh_9 : lj_LH 151 yL_feed md_L_feed hh_L_feed 3 := ⟨sm_w (List.mem_of_getElem? (i := 863) (by decide +kernel)) rfl, sm_w (List.mem_of_getElem? (i := 864) (by decide +kernel)) rfl, sm_w (List.mem_of_getElem? (i := 58) (by decide +kernel)) rfl, sm_w (List.mem_of_getElem? (i := 865) (by decide +kernel)) rfl, by decide, by decide +kernel, by decide +kernel⟩
theorem lv_154 : sm_LV RL 154 yX12_feed md_X12_feed 1 := ⟨sm_w (List.mem_of_getElem? (i := 1376) (by decide +kernel)) rfl, sm_w (List.mem_of_getElem? (i := 1377) (by decide +kernel)) rfl, sm_w (List.mem_of_getElem? (i := 1378) (by decide +kernel)) rfl, sm_w (List.mem_of_getElem? (i := 75) (by decide +kernel)) rfl, sm_w (List.mem_of_getElem? (i := 1379) (by decide +kernel)) rfl, by decide, by decide +kernel⟩
theorem lo_9 {L : Nat} {xs : Nat → Int32} {n0 nc ns : Nat} {M : sm_M} (hL9 : L ≤ 2048) (h4 : n0 + 4 ≤ L) (hnc : nc ≤ 599000) (hns : ns ≤ 6990000) {I : sm_M → Prop} (hp : lp_r (fun F M => f_X11_feed F (((xs (n0 + 1)).toUInt32 % 65536).toInt32) M) (fun F M => f_X12_feed F (((xs (n0 + 1)).toUInt32 % 65536).toInt32) M) I M ∨ lp_x "java/lang/IllegalStateException" 1 (fun F M => f_X11_feed F (((xs (n0 + 1)).toUInt32 % 65536).toInt32) M) (fun F M => f_X12_feed F (((xs (n0 + 1)).toUInt32 % 65536).toInt32) M) I M) (k : ∀ M2, I M2 → lj_J L xs 1900 (lj_l0 n0) [] M2 (nc + 1) (ns + 6)) : lj_J L xs 631 (lj_l0 n0) [] M nc ns := by
  rcases hp with ⟨F, G, v, M1, M2, h1, h2, h3, h5, hI⟩ | ⟨F, G, w, M1, M2, h1, h2, h3, hI⟩
  · skip
    refine lj_aload_n (q := 632) dl_631 rfl rfl ?_
    refine lj_aload_n (q := 633) dl_632 rfl rfl ?_
    refine lj_iload (q := 635) dl_633 rfl rfl ?_
    refine lj_iconst (q := 636) (v := 1) dl_635 rfl (by decide) ?_
    refine lj_iadd (q := 637) dl_636 rfl ?_
    refine lj_sld (q := 638) (t := 1) dl_637 rfl hL9 (by omega) rfl ?_
    refine lj_i2c (q := 639) dl_638 rfl ?_
    refine lj_aload_n (q := 640) dl_639 rfl rfl ?_
    refine lj_callH (q := 643) [] [.ref 0, .int (((xs (n0 + 1)).toUInt32 % 65536).toInt32), .ref 102] dl_640 rfl lh_9 rfl (Nat.le_of_ble_eq_true rfl) (Nat.le_of_ble_eq_true rfl) (by omega) (by omega) (hR_L_feed lj_x lj_102 (((xs (n0 + 1)).toUInt32 % 65536).toInt32) (c_X11_feed lj_x F (((xs (n0 + 1)).toUInt32 % 65536).toInt32) M (.inl (some (.int v)), M1) h1)) ?_
    refine lj_istore (q := 645) (lt := [some (.ref 103), some (.ref 0), some (.ref 80), some (.ref 102), some (.int (Int32.ofNat n0)), some (.int 0), none, none]) dl_643 rfl (Nat.le_of_ble_eq_true rfl) rfl rfl ?_
    refine lj_aload_n (q := 646) dl_645 rfl rfl ?_
    refine lj_aload_n (q := 647) dl_646 rfl rfl ?_
    refine lj_iload (q := 649) dl_647 rfl rfl ?_
    refine lj_iconst (q := 650) (v := 1) dl_649 rfl (by decide) ?_
    refine lj_iadd (q := 651) dl_650 rfl ?_
    refine lj_sld (q := 652) (t := 1) dl_651 rfl hL9 (by omega) rfl ?_
    refine lj_i2c (q := 653) dl_652 rfl ?_
    refine lj_callV (q := 656) [] [.int (((xs (n0 + 1)).toUInt32 % 65536).toInt32)] dl_653 rfl lv_154 lj_80 rfl rfl rfl (Nat.le_of_ble_eq_true rfl) (Nat.le_of_ble_eq_true rfl) (by omega) (by omega) (c_X12_feed lj_m G (((xs (n0 + 1)).toUInt32 % 65536).toInt32) _ (v, M2) h2) ?_
    refine lj_istore (q := 658) (lt := [some (.ref 103), some (.ref 0), some (.ref 80), some (.ref 102), some (.int (Int32.ofNat n0)), some (.int 0), some (.int v), none]) dl_656 rfl (Nat.le_of_ble_eq_true rfl) rfl rfl ?_
    refine lj_aload_n (q := 659) dl_658 rfl rfl ?_
    refine lj_callV (q := 662) [] [] dl_659 rfl lv_118 lj_80 rfl rfl rfl (Nat.le_of_ble_eq_true rfl) (Nat.le_of_ble_eq_true rfl) (by omega) (by omega) (c_X12_thrown lj_m 0 M2 _ (th_thrown M2)) ?_
    refine lj_iload (q := 664) dl_662 rfl rfl ?_
    refine lj_icmp_eq (q := 667) (t := 669) dl_664 rfl rfl (fun _ => ?_) (fun h => absurd h3 h)
    refine lj_iload (q := 671) dl_669 rfl rfl ?_
    refine lj_if_ne (q := 674) (t := 686) dl_671 rfl rfl (fun h => absurd rfl h) (fun _ => ?_)
    refine lj_aload_n (q := 675) dl_674 rfl rfl ?_
    refine lj_iconst (q := 676) (v := 0) dl_675 rfl (by decide) ?_
    refine lj_laload (q := 677) dl_676 rfl lj_102 (sm_ib_of rfl) ?_
    refine lj_iload (q := 679) dl_677 rfl rfl ?_
    refine lj_i2l (q := 680) dl_679 rfl ?_
    refine lj_lcmp (q := 681) dl_680 rfl ?_
    refine lj_if_eq (q := 684) (t := 686) dl_681 rfl rfl (fun _ => ?_) (fun h => absurd (lj_cmp1 h5) h)
    refine lj_goto (t := 1900) dl_686 rfl ?_
    refine lj_fg [5, 6] (lt := lj_l0 n0) rfl ?_
    exact k M2 hI
  · skip
    refine lj_aload_n (q := 632) dl_631 rfl rfl ?_
    refine lj_aload_n (q := 633) dl_632 rfl rfl ?_
    refine lj_iload (q := 635) dl_633 rfl rfl ?_
    refine lj_iconst (q := 636) (v := 1) dl_635 rfl (by decide) ?_
    refine lj_iadd (q := 637) dl_636 rfl ?_
    refine lj_sld (q := 638) (t := 1) dl_637 rfl hL9 (by omega) rfl ?_
    refine lj_i2c (q := 639) dl_638 rfl ?_
    refine lj_aload_n (q := 640) dl_639 rfl rfl ?_
    refine lj_callH (q := 643) [] [.ref 0, .int (((xs (n0 + 1)).toUInt32 % 65536).toInt32), .ref 102] dl_640 rfl lh_9 rfl (Nat.le_of_ble_eq_true rfl) (Nat.le_of_ble_eq_true rfl) (by omega) (by omega) (hX1_L_feed lj_x lj_102 (((xs (n0 + 1)).toUInt32 % 65536).toInt32) (c_X11_feed lj_x F (((xs (n0 + 1)).toUInt32 % 65536).toInt32) M (.inr "java/lang/IllegalStateException", M1) h1)) ?_
    refine lj_istore (q := 645) (lt := [some (.ref 103), some (.ref 0), some (.ref 80), some (.ref 102), some (.int (Int32.ofNat n0)), some (.int 1), none, none]) dl_643 rfl (Nat.le_of_ble_eq_true rfl) rfl rfl ?_
    refine lj_aload_n (q := 646) dl_645 rfl rfl ?_
    refine lj_aload_n (q := 647) dl_646 rfl rfl ?_
    refine lj_iload (q := 649) dl_647 rfl rfl ?_
    refine lj_iconst (q := 650) (v := 1) dl_649 rfl (by decide) ?_
    refine lj_iadd (q := 651) dl_650 rfl ?_
    refine lj_sld (q := 652) (t := 1) dl_651 rfl hL9 (by omega) rfl ?_
    refine lj_i2c (q := 653) dl_652 rfl ?_
    refine lj_callV (q := 656) [] [.int (((xs (n0 + 1)).toUInt32 % 65536).toInt32)] dl_653 rfl lv_154 lj_80 rfl rfl rfl (Nat.le_of_ble_eq_true rfl) (Nat.le_of_ble_eq_true rfl) (by omega) (by omega) (c_X12_feed lj_m G (((xs (n0 + 1)).toUInt32 % 65536).toInt32) _ (w, M2) h2) ?_
    refine lj_istore (q := 658) (lt := [some (.ref 103), some (.ref 0), some (.ref 80), some (.ref 102), some (.int (Int32.ofNat n0)), some (.int 1), some (.int w), none]) dl_656 rfl (Nat.le_of_ble_eq_true rfl) rfl rfl ?_
    refine lj_aload_n (q := 659) dl_658 rfl rfl ?_
    refine lj_callV (q := 662) [] [] dl_659 rfl lv_118 lj_80 rfl rfl rfl (Nat.le_of_ble_eq_true rfl) (Nat.le_of_ble_eq_true rfl) (by omega) (by omega) (c_X12_thrown lj_m 0 M2 _ (th_thrown M2)) ?_
    refine lj_iload (q := 664) dl_662 rfl rfl ?_
    refine lj_icmp_eq (q := 667) (t := 669) dl_664 rfl rfl (fun _ => ?_) (fun h => absurd h3 h)
    refine lj_iload (q := 671) dl_669 rfl rfl ?_
    refine lj_if_ne (q := 674) (t := 686) dl_671 rfl rfl (fun _ => ?_) (fun h => absurd h (by decide))
    refine lj_goto (t := 1900) dl_686 rfl ?_
    refine lj_fg [5, 6] (lt := lj_l0 n0) rfl ?_
    exact k M2 hI
theorem lv_155 : sm_LV RL 155 yX11_read md_X11_read 0 := ⟨sm_w (List.mem_of_getElem? (i := 530) (by decide +kernel)) rfl, sm_w (List.mem_of_getElem? (i := 531) (by decide +kernel)) rfl, sm_w (List.mem_of_getElem? (i := 532) (by decide +kernel)) rfl, sm_w (List.mem_of_getElem? (i := 59) (by decide +kernel)) rfl, sm_w (List.mem_of_getElem? (i := 533) (by decide +kernel)) rfl, by decide, by decide +kernel⟩
theorem lv_158 : sm_LV RL 158 yX12_read md_X12_read 0 := ⟨sm_w (List.mem_of_getElem? (i := 1380) (by decide +kernel)) rfl, sm_w (List.mem_of_getElem? (i := 1381) (by decide +kernel)) rfl, sm_w (List.mem_of_getElem? (i := 1382) (by decide +kernel)) rfl, sm_w (List.mem_of_getElem? (i := 75) (by decide +kernel)) rfl, sm_w (List.mem_of_getElem? (i := 1383) (by decide +kernel)) rfl, by decide, by decide +kernel⟩
theorem lo_10 {L : Nat} {xs : Nat → Int32} {n0 nc ns : Nat} {M : sm_M} (hL9 : L ≤ 2048) (h4 : n0 + 4 ≤ L) (hnc : nc ≤ 599000) (hns : ns ≤ 6990000) {I : sm_M → Prop} (hp : lp_d (fun F M => f_X11_read F M) (fun F M => f_X12_read F M) I M) (k : ∀ M2, I M2 → lj_J L xs 1900 (lj_l0 n0) [] M2 (nc + 1) (ns + 6)) : lj_J L xs 689 (lj_l0 n0) [] M nc ns := by
  obtain ⟨F, G, v, M1, M2, h1, h2, hI⟩ := hp
  refine lj_aload_n (q := 690) dl_689 rfl rfl ?_
  refine lj_callV (q := 693) [] [] dl_690 rfl lv_155 lj_0 rfl rfl rfl (Nat.le_of_ble_eq_true rfl) (Nat.le_of_ble_eq_true rfl) (by omega) (by omega) (c_X11_read lj_x F M (v, M1) h1) ?_
  refine lj_aload_n (q := 694) dl_693 rfl rfl ?_
  refine lj_callV (q := 697) [.int v] [] dl_694 rfl lv_158 lj_80 rfl rfl rfl (Nat.le_of_ble_eq_true rfl) (Nat.le_of_ble_eq_true rfl) (by omega) (by omega) (c_X12_read lj_m G _ (v, M2) h2) ?_
  refine lj_icmp_eq (q := 700) (t := 1900) dl_697 rfl rfl (fun _ => ?_) (fun h => absurd rfl h)
  exact lj_wide (Nat.le_add_right _ _) (Nat.le_add_right _ _) (k M2 hI)

