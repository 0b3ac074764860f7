/-! ===== methods, decompiled: 16h.model ===== -/
/-! UniversalCyclesModel.circuitCount()J -/
theorem d_X12_circuitCount_0 : decode cX12_circuitCount 0 = .ok (.aload_n 0, 1) := by decide +kernel
theorem d_X12_circuitCount_1 : decode cX12_circuitCount 1 = .ok (.iconst 0, 1) := by decide +kernel
theorem d_X12_circuitCount_2 : decode cX12_circuitCount 2 = .ok (.putfield 1, 3) := by decide +kernel
theorem d_X12_circuitCount_5 : decode cX12_circuitCount 5 = .ok (.aload_n 0, 1) := by decide +kernel
theorem d_X12_circuitCount_6 : decode cX12_circuitCount 6 = .ok (.getfield 90, 3) := by decide +kernel
theorem d_X12_circuitCount_9 : decode cX12_circuitCount 9 = .ok (.iconst 3, 1) := by decide +kernel
theorem d_X12_circuitCount_10 : decode cX12_circuitCount 10 = .ok (.if_icmp .eq 12, 3) := by decide +kernel
theorem d_X12_circuitCount_13 : decode cX12_circuitCount 13 = .ok (.aload_n 0, 1) := by decide +kernel
theorem d_X12_circuitCount_14 : decode cX12_circuitCount 14 = .ok (.getfield 100, 3) := by decide +kernel
theorem d_X12_circuitCount_17 : decode cX12_circuitCount 17 = .ok (.bipush 8, 2) := by decide +kernel
theorem d_X12_circuitCount_19 : decode cX12_circuitCount 19 = .ok (.if_icmp .le 10, 3) := by decide +kernel
theorem d_X12_circuitCount_22 : decode cX12_circuitCount 22 = .ok (.aload_n 0, 1) := by decide +kernel
theorem d_X12_circuitCount_23 : decode cX12_circuitCount 23 = .ok (.iconst 1, 1) := by decide +kernel
theorem d_X12_circuitCount_24 : decode cX12_circuitCount 24 = .ok (.invokevirtual 122, 3) := by decide +kernel
theorem d_X12_circuitCount_27 : decode cX12_circuitCount 27 = .ok (.i2l, 1) := by decide +kernel
theorem d_X12_circuitCount_28 : decode cX12_circuitCount 28 = .ok (.lreturn, 1) := by decide +kernel
theorem d_X12_circuitCount_29 : decode cX12_circuitCount 29 = .ok (.aload_n 0, 1) := by decide +kernel
theorem d_X12_circuitCount_30 : decode cX12_circuitCount 30 = .ok (.invokevirtual 217, 3) := by decide +kernel
theorem d_X12_circuitCount_33 : decode cX12_circuitCount 33 = .ok (.ifCond .ne 10, 3) := by decide +kernel
theorem d_X12_circuitCount_36 : decode cX12_circuitCount 36 = .ok (.aload_n 0, 1) := by decide +kernel
theorem d_X12_circuitCount_37 : decode cX12_circuitCount 37 = .ok (.iconst 2, 1) := by decide +kernel
theorem d_X12_circuitCount_38 : decode cX12_circuitCount 38 = .ok (.invokevirtual 122, 3) := by decide +kernel
theorem d_X12_circuitCount_41 : decode cX12_circuitCount 41 = .ok (.i2l, 1) := by decide +kernel
theorem d_X12_circuitCount_42 : decode cX12_circuitCount 42 = .ok (.lreturn, 1) := by decide +kernel
theorem d_X12_circuitCount_43 : decode cX12_circuitCount 43 = .ok (.iconst 0, 1) := by decide +kernel
theorem d_X12_circuitCount_44 : decode cX12_circuitCount 44 = .ok (.istore_n 1, 1) := by decide +kernel
theorem d_X12_circuitCount_45 : decode cX12_circuitCount 45 = .ok (.iload_n 1, 1) := by decide +kernel
theorem d_X12_circuitCount_46 : decode cX12_circuitCount 46 = .ok (.bipush 64, 2) := by decide +kernel
theorem d_X12_circuitCount_48 : decode cX12_circuitCount 48 = .ok (.if_icmp .ge 16, 3) := by decide +kernel
theorem d_X12_circuitCount_51 : decode cX12_circuitCount 51 = .ok (.aload_n 0, 1) := by decide +kernel
theorem d_X12_circuitCount_52 : decode cX12_circuitCount 52 = .ok (.getfield 80, 3) := by decide +kernel
theorem d_X12_circuitCount_55 : decode cX12_circuitCount 55 = .ok (.iload_n 1, 1) := by decide +kernel
theorem d_X12_circuitCount_56 : decode cX12_circuitCount 56 = .ok (.lconst 0, 1) := by decide +kernel
theorem d_X12_circuitCount_57 : decode cX12_circuitCount 57 = .ok (.lastore, 1) := by decide +kernel
theorem d_X12_circuitCount_58 : decode cX12_circuitCount 58 = .ok (.iinc 1 1, 3) := by decide +kernel
theorem d_X12_circuitCount_61 : decode cX12_circuitCount 61 = .ok (.goto (-16), 3) := by decide +kernel
theorem d_X12_circuitCount_64 : decode cX12_circuitCount 64 = .ok (.iconst 0, 1) := by decide +kernel
theorem d_X12_circuitCount_65 : decode cX12_circuitCount 65 = .ok (.istore_n 1, 1) := by decide +kernel
theorem d_X12_circuitCount_66 : decode cX12_circuitCount 66 = .ok (.iload_n 1, 1) := by decide +kernel
theorem d_X12_circuitCount_67 : decode cX12_circuitCount 67 = .ok (.aload_n 0, 1) := by decide +kernel
theorem d_X12_circuitCount_68 : decode cX12_circuitCount 68 = .ok (.getfield 97, 3) := by decide +kernel
theorem d_X12_circuitCount_71 : decode cX12_circuitCount 71 = .ok (.if_icmp .ge 52, 3) := by decide +kernel
theorem d_X12_circuitCount_74 : decode cX12_circuitCount 74 = .ok (.aload_n 0, 1) := by decide +kernel
theorem d_X12_circuitCount_75 : decode cX12_circuitCount 75 = .ok (.getfield 80, 3) := by decide +kernel
theorem d_X12_circuitCount_78 : decode cX12_circuitCount 78 = .ok (.bipush 9, 2) := by decide +kernel
theorem d_X12_circuitCount_80 : decode cX12_circuitCount 80 = .ok (.aload_n 0, 1) := by decide +kernel
theorem d_X12_circuitCount_81 : decode cX12_circuitCount 81 = .ok (.getfield 30, 3) := by decide +kernel
theorem d_X12_circuitCount_84 : decode cX12_circuitCount 84 = .ok (.iload_n 1, 1) := by decide +kernel
theorem d_X12_circuitCount_85 : decode cX12_circuitCount 85 = .ok (.iaload, 1) := by decide +kernel
theorem d_X12_circuitCount_86 : decode cX12_circuitCount 86 = .ok (.imul, 1) := by decide +kernel
theorem d_X12_circuitCount_87 : decode cX12_circuitCount 87 = .ok (.dup2, 1) := by decide +kernel
theorem d_X12_circuitCount_88 : decode cX12_circuitCount 88 = .ok (.laload, 1) := by decide +kernel
theorem d_X12_circuitCount_89 : decode cX12_circuitCount 89 = .ok (.lconst 1, 1) := by decide +kernel
theorem d_X12_circuitCount_90 : decode cX12_circuitCount 90 = .ok (.ladd, 1) := by decide +kernel
theorem d_X12_circuitCount_91 : decode cX12_circuitCount 91 = .ok (.lastore, 1) := by decide +kernel
theorem d_X12_circuitCount_92 : decode cX12_circuitCount 92 = .ok (.aload_n 0, 1) := by decide +kernel
theorem d_X12_circuitCount_93 : decode cX12_circuitCount 93 = .ok (.getfield 80, 3) := by decide +kernel
theorem d_X12_circuitCount_96 : decode cX12_circuitCount 96 = .ok (.bipush 8, 2) := by decide +kernel
theorem d_X12_circuitCount_98 : decode cX12_circuitCount 98 = .ok (.aload_n 0, 1) := by decide +kernel
theorem d_X12_circuitCount_99 : decode cX12_circuitCount 99 = .ok (.getfield 30, 3) := by decide +kernel
theorem d_X12_circuitCount_102 : decode cX12_circuitCount 102 = .ok (.iload_n 1, 1) := by decide +kernel
theorem d_X12_circuitCount_103 : decode cX12_circuitCount 103 = .ok (.iaload, 1) := by decide +kernel
theorem d_X12_circuitCount_104 : decode cX12_circuitCount 104 = .ok (.imul, 1) := by decide +kernel
theorem d_X12_circuitCount_105 : decode cX12_circuitCount 105 = .ok (.aload_n 0, 1) := by decide +kernel
theorem d_X12_circuitCount_106 : decode cX12_circuitCount 106 = .ok (.getfield 33, 3) := by decide +kernel
theorem d_X12_circuitCount_109 : decode cX12_circuitCount 109 = .ok (.iload_n 1, 1) := by decide +kernel
theorem d_X12_circuitCount_110 : decode cX12_circuitCount 110 = .ok (.iaload, 1) := by decide +kernel
theorem d_X12_circuitCount_111 : decode cX12_circuitCount 111 = .ok (.iadd, 1) := by decide +kernel
theorem d_X12_circuitCount_112 : decode cX12_circuitCount 112 = .ok (.dup2, 1) := by decide +kernel
theorem d_X12_circuitCount_113 : decode cX12_circuitCount 113 = .ok (.laload, 1) := by decide +kernel
theorem d_X12_circuitCount_114 : decode cX12_circuitCount 114 = .ok (.lconst 1, 1) := by decide +kernel
theorem d_X12_circuitCount_115 : decode cX12_circuitCount 115 = .ok (.lsub, 1) := by decide +kernel
theorem d_X12_circuitCount_116 : decode cX12_circuitCount 116 = .ok (.lastore, 1) := by decide +kernel
theorem d_X12_circuitCount_117 : decode cX12_circuitCount 117 = .ok (.iinc 1 1, 3) := by decide +kernel
theorem d_X12_circuitCount_120 : decode cX12_circuitCount 120 = .ok (.goto (-54), 3) := by decide +kernel
theorem d_X12_circuitCount_123 : decode cX12_circuitCount 123 = .ok (.aload_n 0, 1) := by decide +kernel
theorem d_X12_circuitCount_124 : decode cX12_circuitCount 124 = .ok (.iconst 1, 1) := by decide +kernel
theorem d_X12_circuitCount_125 : decode cX12_circuitCount 125 = .ok (.iconst 0, 1) := by decide +kernel
theorem d_X12_circuitCount_126 : decode cX12_circuitCount 126 = .ok (.invokevirtual 213, 3) := by decide +kernel
theorem d_X12_circuitCount_129 : decode cX12_circuitCount 129 = .ok (.lstore_n 1, 1) := by decide +kernel
theorem d_X12_circuitCount_130 : decode cX12_circuitCount 130 = .ok (.iconst 0, 1) := by decide +kernel
theorem d_X12_circuitCount_131 : decode cX12_circuitCount 131 = .ok (.istore_n 3, 1) := by decide +kernel
theorem d_X12_circuitCount_132 : decode cX12_circuitCount 132 = .ok (.iload_n 3, 1) := by decide +kernel
theorem d_X12_circuitCount_133 : decode cX12_circuitCount 133 = .ok (.aload_n 0, 1) := by decide +kernel
theorem d_X12_circuitCount_134 : decode cX12_circuitCount 134 = .ok (.getfield 100, 3) := by decide +kernel
theorem d_X12_circuitCount_137 : decode cX12_circuitCount 137 = .ok (.if_icmp .ge 92, 3) := by decide +kernel
theorem d_X12_circuitCount_140 : decode cX12_circuitCount 140 = .ok (.iconst 0, 1) := by decide +kernel
theorem d_X12_circuitCount_141 : decode cX12_circuitCount 141 = .ok (.istore 4, 2) := by decide +kernel
theorem d_X12_circuitCount_143 : decode cX12_circuitCount 143 = .ok (.iconst 0, 1) := by decide +kernel
theorem d_X12_circuitCount_144 : decode cX12_circuitCount 144 = .ok (.istore 5, 2) := by decide +kernel
theorem d_X12_circuitCount_146 : decode cX12_circuitCount 146 = .ok (.iload 5, 2) := by decide +kernel
theorem d_X12_circuitCount_148 : decode cX12_circuitCount 148 = .ok (.aload_n 0, 1) := by decide +kernel
theorem d_X12_circuitCount_149 : decode cX12_circuitCount 149 = .ok (.getfield 97, 3) := by decide +kernel
theorem d_X12_circuitCount_152 : decode cX12_circuitCount 152 = .ok (.if_icmp .ge 30, 3) := by decide +kernel
theorem d_X12_circuitCount_155 : decode cX12_circuitCount 155 = .ok (.iload 4, 2) := by decide +kernel
theorem d_X12_circuitCount_157 : decode cX12_circuitCount 157 = .ok (.aload_n 0, 1) := by decide +kernel
theorem d_X12_circuitCount_158 : decode cX12_circuitCount 158 = .ok (.getfield 30, 3) := by decide +kernel
theorem d_X12_circuitCount_161 : decode cX12_circuitCount 161 = .ok (.iload 5, 2) := by decide +kernel
theorem d_X12_circuitCount_163 : decode cX12_circuitCount 163 = .ok (.iaload, 1) := by decide +kernel
theorem d_X12_circuitCount_164 : decode cX12_circuitCount 164 = .ok (.iload_n 3, 1) := by decide +kernel
theorem d_X12_circuitCount_165 : decode cX12_circuitCount 165 = .ok (.if_icmp .ne 7, 3) := by decide +kernel
theorem d_X12_circuitCount_168 : decode cX12_circuitCount 168 = .ok (.iconst 1, 1) := by decide +kernel
theorem d_X12_circuitCount_169 : decode cX12_circuitCount 169 = .ok (.goto 4, 3) := by decide +kernel
theorem d_X12_circuitCount_172 : decode cX12_circuitCount 172 = .ok (.iconst 0, 1) := by decide +kernel
theorem d_X12_circuitCount_173 : decode cX12_circuitCount 173 = .ok (.iadd, 1) := by decide +kernel
theorem d_X12_circuitCount_174 : decode cX12_circuitCount 174 = .ok (.istore 4, 2) := by decide +kernel
theorem d_X12_circuitCount_176 : decode cX12_circuitCount 176 = .ok (.iinc 5 1, 3) := by decide +kernel
theorem d_X12_circuitCount_179 : decode cX12_circuitCount 179 = .ok (.goto (-33), 3) := by decide +kernel
theorem d_X12_circuitCount_182 : decode cX12_circuitCount 182 = .ok (.iconst 2, 1) := by decide +kernel
theorem d_X12_circuitCount_183 : decode cX12_circuitCount 183 = .ok (.istore 5, 2) := by decide +kernel
theorem d_X12_circuitCount_185 : decode cX12_circuitCount 185 = .ok (.iload 5, 2) := by decide +kernel
theorem d_X12_circuitCount_187 : decode cX12_circuitCount 187 = .ok (.iload 4, 2) := by decide +kernel
theorem d_X12_circuitCount_189 : decode cX12_circuitCount 189 = .ok (.if_icmp .ge 34, 3) := by decide +kernel
theorem d_X12_circuitCount_192 : decode cX12_circuitCount 192 = .ok (.lload_n 1, 1) := by decide +kernel
theorem d_X12_circuitCount_193 : decode cX12_circuitCount 193 = .ok (.ldc2_w 223, 3) := by decide +kernel
theorem d_X12_circuitCount_196 : decode cX12_circuitCount 196 = .ok (.iload 5, 2) := by decide +kernel
theorem d_X12_circuitCount_198 : decode cX12_circuitCount 198 = .ok (.i2l, 1) := by decide +kernel
theorem d_X12_circuitCount_199 : decode cX12_circuitCount 199 = .ok (.ldiv, 1) := by decide +kernel
theorem d_X12_circuitCount_200 : decode cX12_circuitCount 200 = .ok (.lcmp, 1) := by decide +kernel
theorem d_X12_circuitCount_201 : decode cX12_circuitCount 201 = .ok (.ifCond .le 10, 3) := by decide +kernel
theorem d_X12_circuitCount_204 : decode cX12_circuitCount 204 = .ok (.aload_n 0, 1) := by decide +kernel
theorem d_X12_circuitCount_205 : decode cX12_circuitCount 205 = .ok (.iconst 3, 1) := by decide +kernel
theorem d_X12_circuitCount_206 : decode cX12_circuitCount 206 = .ok (.invokevirtual 122, 3) := by decide +kernel
theorem d_X12_circuitCount_209 : decode cX12_circuitCount 209 = .ok (.i2l, 1) := by decide +kernel
theorem d_X12_circuitCount_210 : decode cX12_circuitCount 210 = .ok (.lreturn, 1) := by decide +kernel
theorem d_X12_circuitCount_211 : decode cX12_circuitCount 211 = .ok (.lload_n 1, 1) := by decide +kernel
theorem d_X12_circuitCount_212 : decode cX12_circuitCount 212 = .ok (.iload 5, 2) := by decide +kernel
theorem d_X12_circuitCount_214 : decode cX12_circuitCount 214 = .ok (.i2l, 1) := by decide +kernel
theorem d_X12_circuitCount_215 : decode cX12_circuitCount 215 = .ok (.lmul, 1) := by decide +kernel
theorem d_X12_circuitCount_216 : decode cX12_circuitCount 216 = .ok (.lstore_n 1, 1) := by decide +kernel
theorem d_X12_circuitCount_217 : decode cX12_circuitCount 217 = .ok (.iinc 5 1, 3) := by decide +kernel
theorem d_X12_circuitCount_220 : decode cX12_circuitCount 220 = .ok (.goto (-35), 3) := by decide +kernel
theorem d_X12_circuitCount_223 : decode cX12_circuitCount 223 = .ok (.iinc 3 1, 3) := by decide +kernel
theorem d_X12_circuitCount_226 : decode cX12_circuitCount 226 = .ok (.goto (-94), 3) := by decide +kernel
theorem d_X12_circuitCount_229 : decode cX12_circuitCount 229 = .ok (.lload_n 1, 1) := by decide +kernel
theorem d_X12_circuitCount_230 : decode cX12_circuitCount 230 = .ok (.lreturn, 1) := by decide +kernel
def f_X12_circuitCount_22 (F : Nat) (M : sm_M) : Option (Int64 × sm_M) := (f_X12_fail F (1 : Int32) M).bind fun q1 => some (q1.1.toInt64, q1.2)
set_option maxRecDepth 100000 in
set_option maxHeartbeats 4000000 in
theorem j_X12_circuitCount_22 {sk : List sm_Sh} (hx : sm_ext skM sk) (F : Nat) : ∀ (M : sm_M) (r : Int64 × sm_M), f_X12_circuitCount_22 F M = some r → sm_J (md_X12_circuitCount, 10, sk, .inl (some (.long r.1)), r.2) 22 [some (.ref 80), none, none, none, none, none] [] M := by
  intro   M r h
  unfold f_X12_circuitCount_22 at h
  refine sm_aload_n (q := 23) d_X12_circuitCount_22 rfl rfl ?_
  refine sm_iconst (q := 24) d_X12_circuitCount_23 rfl ci_1 ?_
  obtain ⟨q1, e1, h⟩ := sm_bd h
  refine sm_callV (q := 27) (d' := 0) [] [.int (1 : Int32)] d_X12_circuitCount_24 rfl lk_X12_122 (hx sx_80) rfl rfl rfl (Nat.le_of_ble_eq_true rfl) (Nat.le_of_ble_eq_true rfl) (c_X12_fail hx F (1 : Int32) M _ e1) (st9 := [.int q1.1]) rfl ?_
  refine sm_i2l (q := 28) d_X12_circuitCount_27 rfl ?_
  obtain rfl := Option.some.inj h
  exact sm_lret d_X12_circuitCount_28 rfl rfl rfl
def f_X12_circuitCount_173 (F : Nat) (kb132 : Int64 → Int32 → sm_M → Option (Int64 × sm_M)) (kb146 : Int64 → Int32 → Int32 → Int32 → sm_M → Option (Int64 × sm_M)) (x1 : Int64) (x3 : Int32) (x5 : Int32) (y0 : Int32) (y1 : Int32) (M : sm_M) : Option (Int64 × sm_M) := kb146 x1 x3 (y0 + y1) (x5 + 1) M
set_option maxRecDepth 100000 in
set_option maxHeartbeats 4000000 in
theorem j_X12_circuitCount_173 {sk : List sm_Sh} (hx : sm_ext skM sk) (F : Nat) (kb132 : Int64 → Int32 → sm_M → Option (Int64 × sm_M)) (kb146 : Int64 → Int32 → Int32 → Int32 → sm_M → Option (Int64 × sm_M)) (hkb132 : ∀ (x1 : Int64) (x3 : Int32) (M : sm_M) (r : Int64 × sm_M), kb132 x1 x3 M = some r → sm_J (md_X12_circuitCount, 10, sk, .inl (some (.long r.1)), r.2) 132 [some (.ref 80), some (.long x1), none, some (.int x3), none, none] [] M) (hkb146 : ∀ (x1 : Int64) (x3 : Int32) (x4 : Int32) (x5 : Int32) (M : sm_M) (r : Int64 × sm_M), kb146 x1 x3 x4 x5 M = some r → sm_J (md_X12_circuitCount, 10, sk, .inl (some (.long r.1)), r.2) 146 [some (.ref 80), some (.long x1), none, some (.int x3), some (.int x4), some (.int x5)] [] M) : ∀ (x1 : Int64) (x3 : Int32) (x5 : Int32) (y0 : Int32) (y1 : Int32) (M : sm_M) (r : Int64 × sm_M), f_X12_circuitCount_173 F kb132 kb146 x1 x3 x5 y0 y1 M = some r → sm_J (md_X12_circuitCount, 10, sk, .inl (some (.long r.1)), r.2) 173 [some (.ref 80), some (.long x1), none, some (.int x3), none, some (.int x5)] [.int y1, .int y0] M := by
  intro x1 x3 x5 y0 y1  M r h
  unfold f_X12_circuitCount_173 at h
  refine sm_iadd (q := 174) d_X12_circuitCount_173 rfl ?_
  refine sm_istore (q := 176) (lt := [some (.ref 80), some (.long x1), none, some (.int x3), some (.int (y0 + y1)), some (.int x5)]) d_X12_circuitCount_174 rfl (Nat.le_of_ble_eq_true rfl) rfl rfl ?_
  refine sm_iinc (q := 179) (v := (x5 + 1)) (lt := [some (.ref 80), some (.long x1), none, some (.int x3), some (.int (y0 + y1)), some (.int (x5 + 1))]) d_X12_circuitCount_176 rfl rfl (ii_1 _) (Nat.le_of_ble_eq_true rfl) rfl rfl ?_
  refine sm_goto (t := 146) d_X12_circuitCount_179 rfl ?_
  exact hkb146 x1 x3 (y0 + y1) (x5 + 1) M _ h
def f_X12_circuitCount_185b (F : Nat) (kb132 : Int64 → Int32 → sm_M → Option (Int64 × sm_M)) (kb185 : Int64 → Int32 → Int32 → Int32 → sm_M → Option (Int64 × sm_M)) (x1 : Int64) (x3 : Int32) (x4 : Int32) (x5 : Int32) (M : sm_M) : Option (Int64 × sm_M) := if x4 ≤ x5 then (kb132 x1 (x3 + 1) M) else (sm_g (sm_nzl x5.toInt64) (if (lg_cmp x1 ((9223372036854775807 : Int64) / x5.toInt64)) ≤ 0 then (kb185 (x1 * x5.toInt64) x3 x4 (x5 + 1) M) else ((f_X12_fail F (3 : Int32) M).bind fun q4 => some (q4.1.toInt64, q4.2))))
set_option maxRecDepth 100000 in
set_option maxHeartbeats 4000000 in
theorem j_X12_circuitCount_185b {sk : List sm_Sh} (hx : sm_ext skM sk) (F : Nat) (kb132 : Int64 → Int32 → sm_M → Option (Int64 × sm_M)) (kb185 : Int64 → Int32 → Int32 → Int32 → sm_M → Option (Int64 × sm_M)) (hkb132 : ∀ (x1 : Int64) (x3 : Int32) (M : sm_M) (r : Int64 × sm_M), kb132 x1 x3 M = some r → sm_J (md_X12_circuitCount, 10, sk, .inl (some (.long r.1)), r.2) 132 [some (.ref 80), some (.long x1), none, some (.int x3), none, none] [] M) (hkb185 : ∀ (x1 : Int64) (x3 : Int32) (x4 : Int32) (x5 : Int32) (M : sm_M) (r : Int64 × sm_M), kb185 x1 x3 x4 x5 M = some r → sm_J (md_X12_circuitCount, 10, sk, .inl (some (.long r.1)), r.2) 185 [some (.ref 80), some (.long x1), none, some (.int x3), some (.int x4), some (.int x5)] [] M) : ∀ (x1 : Int64) (x3 : Int32) (x4 : Int32) (x5 : Int32) (M : sm_M) (r : Int64 × sm_M), f_X12_circuitCount_185b F kb132 kb185 x1 x3 x4 x5 M = some r → sm_J (md_X12_circuitCount, 10, sk, .inl (some (.long r.1)), r.2) 185 [some (.ref 80), some (.long x1), none, some (.int x3), some (.int x4), some (.int x5)] [] M := by
  intro x1 x3 x4 x5  M r h
  unfold f_X12_circuitCount_185b at h
  refine sm_iload (q := 187) d_X12_circuitCount_185 rfl rfl ?_
  refine sm_iload (q := 189) d_X12_circuitCount_187 rfl rfl ?_
  refine sm_icmp_ge (q := 192) (t := 223) d_X12_circuitCount_189 rfl rfl (fun c1 => ?_) (fun c1 => ?_)
  · replace h := sm_it c1 h
    refine sm_iinc (q := 226) (v := (x3 + 1)) (lt := [some (.ref 80), some (.long x1), none, some (.int (x3 + 1)), some (.int x4), some (.int x5)]) d_X12_circuitCount_223 rfl rfl (ii_1 _) (Nat.le_of_ble_eq_true rfl) rfl rfl ?_
    refine sm_goto (t := 132) d_X12_circuitCount_226 rfl ?_
    refine sm_fg [4, 5] ?_
    exact hkb132 x1 (x3 + 1) M _ h
  · replace h := sm_if c1 h
    refine sm_lload_n (q := 193) d_X12_circuitCount_192 rfl rfl ?_
    refine sm_ldc2 (q := 196) (v := (9223372036854775807)) d_X12_circuitCount_193 rfl cn_X12_223 ?_
    refine sm_iload (q := 198) d_X12_circuitCount_196 rfl rfl ?_
    refine sm_i2l (q := 199) d_X12_circuitCount_198 rfl ?_
    obtain ⟨g2, h⟩ := sm_gt h
    refine sm_ldiv (q := 200) d_X12_circuitCount_199 rfl (sm_nzl_of g2) ?_
    refine sm_lcmp (q := 201) d_X12_circuitCount_200 rfl ?_
    refine sm_if_le (q := 204) (t := 211) d_X12_circuitCount_201 rfl rfl (fun c3 => ?_) (fun c3 => ?_)
    · replace h := sm_it c3 h
      refine sm_lload_n (q := 212) d_X12_circuitCount_211 rfl rfl ?_
      refine sm_iload (q := 214) d_X12_circuitCount_212 rfl rfl ?_
      refine sm_i2l (q := 215) d_X12_circuitCount_214 rfl ?_
      refine sm_lmul (q := 216) d_X12_circuitCount_215 rfl ?_
      refine sm_lstore_n (q := 217) (lt := [some (.ref 80), some (.long (x1 * x5.toInt64)), none, some (.int x3), some (.int x4), some (.int x5)]) d_X12_circuitCount_216 rfl (Nat.le_of_ble_eq_true rfl) rfl rfl ?_
      refine sm_iinc (q := 220) (v := (x5 + 1)) (lt := [some (.ref 80), some (.long (x1 * x5.toInt64)), none, some (.int x3), some (.int x4), some (.int (x5 + 1))]) d_X12_circuitCount_217 rfl rfl (ii_1 _) (Nat.le_of_ble_eq_true rfl) rfl rfl ?_
      refine sm_goto (t := 185) d_X12_circuitCount_220 rfl ?_
      exact hkb185 (x1 * x5.toInt64) x3 x4 (x5 + 1) M _ h
    · replace h := sm_if c3 h
      refine sm_aload_n (q := 205) d_X12_circuitCount_204 rfl rfl ?_
      refine sm_iconst (q := 206) d_X12_circuitCount_205 rfl ci_3 ?_
      obtain ⟨q4, e4, h⟩ := sm_bd h
      refine sm_callV (q := 209) (d' := 0) [] [.int (3 : Int32)] d_X12_circuitCount_206 rfl lk_X12_122 (hx sx_80) rfl rfl rfl (Nat.le_of_ble_eq_true rfl) (Nat.le_of_ble_eq_true rfl) (c_X12_fail hx F (3 : Int32) M _ e4) (st9 := [.int q4.1]) rfl ?_
      refine sm_i2l (q := 210) d_X12_circuitCount_209 rfl ?_
      obtain rfl := Option.some.inj h
      exact sm_lret d_X12_circuitCount_210 rfl rfl rfl
def f_X12_circuitCount_185 (F : Nat) (kb132 : Int64 → Int32 → sm_M → Option (Int64 × sm_M)) (n : Nat) : Int64 → Int32 → Int32 → Int32 → sm_M → Option (Int64 × sm_M) := match n with
 | 0 => fun _ _ _ _ _ => none
 | n + 1 => f_X12_circuitCount_185b F kb132 (f_X12_circuitCount_185 F kb132 n)
theorem j_X12_circuitCount_185 {sk : List sm_Sh} (hx : sm_ext skM sk) (F : Nat) (kb132 : Int64 → Int32 → sm_M → Option (Int64 × sm_M)) (hkb132 : ∀ (x1 : Int64) (x3 : Int32) (M : sm_M) (r : Int64 × sm_M), kb132 x1 x3 M = some r → sm_J (md_X12_circuitCount, 10, sk, .inl (some (.long r.1)), r.2) 132 [some (.ref 80), some (.long x1), none, some (.int x3), none, none] [] M) : ∀ (n : Nat) (x1 : Int64) (x3 : Int32) (x4 : Int32) (x5 : Int32) (M : sm_M) (r : Int64 × sm_M), f_X12_circuitCount_185 F kb132 n x1 x3 x4 x5 M = some r → sm_J (md_X12_circuitCount, 10, sk, .inl (some (.long r.1)), r.2) 185 [some (.ref 80), some (.long x1), none, some (.int x3), some (.int x4), some (.int x5)] [] M := by
  intro n
  induction n with
  | zero => intro x1 x3 x4 x5  M r h; exact nomatch (show (none : Option (Int64 × sm_M)) = some r from h)
  | succ n ih => exact j_X12_circuitCount_185b hx F kb132 (f_X12_circuitCount_185 F kb132 n) hkb132 ih
def f_X12_circuitCount_146b (F : Nat) (kb132 : Int64 → Int32 → sm_M → Option (Int64 × sm_M)) (kb146 : Int64 → Int32 → Int32 → Int32 → sm_M → Option (Int64 × sm_M)) (x1 : Int64) (x3 : Int32) (x4 : Int32) (x5 : Int32) (M : sm_M) : Option (Int64 × sm_M) := if (M.1 80 5) ≤ x5 then (f_X12_circuitCount_185 F kb132 F x1 x3 x4 (2 : Int32) M) else (sm_g (sm_ib x5 200) (if (M.1 84 x5.toNatClampNeg) = x3 then (f_X12_circuitCount_173 F kb132 kb146 x1 x3 x5 x4 (1 : Int32) M) else (f_X12_circuitCount_173 F kb132 kb146 x1 x3 x5 x4 (0 : Int32) M)))
set_option maxRecDepth 100000 in
set_option maxHeartbeats 4000000 in
theorem j_X12_circuitCount_146b {sk : List sm_Sh} (hx : sm_ext skM sk) (F : Nat) (kb132 : Int64 → Int32 → sm_M → Option (Int64 × sm_M)) (kb146 : Int64 → Int32 → Int32 → Int32 → sm_M → Option (Int64 × sm_M)) (hkb132 : ∀ (x1 : Int64) (x3 : Int32) (M : sm_M) (r : Int64 × sm_M), kb132 x1 x3 M = some r → sm_J (md_X12_circuitCount, 10, sk, .inl (some (.long r.1)), r.2) 132 [some (.ref 80), some (.long x1), none, some (.int x3), none, none] [] M) (hkb146 : ∀ (x1 : Int64) (x3 : Int32) (x4 : Int32) (x5 : Int32) (M : sm_M) (r : Int64 × sm_M), kb146 x1 x3 x4 x5 M = some r → sm_J (md_X12_circuitCount, 10, sk, .inl (some (.long r.1)), r.2) 146 [some (.ref 80), some (.long x1), none, some (.int x3), some (.int x4), some (.int x5)] [] M) : ∀ (x1 : Int64) (x3 : Int32) (x4 : Int32) (x5 : Int32) (M : sm_M) (r : Int64 × sm_M), f_X12_circuitCount_146b F kb132 kb146 x1 x3 x4 x5 M = some r → sm_J (md_X12_circuitCount, 10, sk, .inl (some (.long r.1)), r.2) 146 [some (.ref 80), some (.long x1), none, some (.int x3), some (.int x4), some (.int x5)] [] M := by
  intro x1 x3 x4 x5  M r h
  unfold f_X12_circuitCount_146b at h
  refine sm_iload (q := 148) d_X12_circuitCount_146 rfl rfl ?_
  refine sm_aload_n (q := 149) d_X12_circuitCount_148 rfl rfl ?_
  refine sm_geti (q := 152) d_X12_circuitCount_149 rfl fl_X12_97 (hx sx_80) rfl ?_
  refine sm_icmp_ge (q := 155) (t := 182) d_X12_circuitCount_152 rfl rfl (fun c1 => ?_) (fun c1 => ?_)
  · replace h := sm_it c1 h
    refine sm_iconst (q := 183) d_X12_circuitCount_182 rfl ci_2 ?_
    refine sm_istore (q := 185) (lt := [some (.ref 80), some (.long x1), none, some (.int x3), some (.int x4), some (.int (2 : Int32))]) d_X12_circuitCount_183 rfl (Nat.le_of_ble_eq_true rfl) rfl rfl ?_
    exact j_X12_circuitCount_185 hx F kb132 hkb132 F x1 x3 x4 (2 : Int32) M _ h
  · replace h := sm_if c1 h
    refine sm_iload (q := 157) d_X12_circuitCount_155 rfl rfl ?_
    refine sm_aload_n (q := 158) d_X12_circuitCount_157 rfl rfl ?_
    refine sm_getr (q := 161) d_X12_circuitCount_158 rfl fl_X12_30 (hx sx_80) rfl ?_
    refine sm_iload (q := 163) d_X12_circuitCount_161 rfl rfl ?_
    obtain ⟨g2, h⟩ := sm_gt h
    refine sm_iaload (q := 164) d_X12_circuitCount_163 rfl (hx sx_84) (sm_ib_of g2) ?_
    refine sm_iload_n (q := 165) d_X12_circuitCount_164 rfl rfl ?_
    refine sm_icmp_ne (q := 168) (t := 172) d_X12_circuitCount_165 rfl rfl (fun c3 => ?_) (fun c3 => ?_)
    · replace h := sm_if c3 h
      refine sm_iconst (q := 173) d_X12_circuitCount_172 rfl ci_0 ?_
      refine sm_fg [4] ?_
      exact j_X12_circuitCount_173 hx F kb132 kb146 hkb132 hkb146 x1 x3 x5 x4 (0 : Int32) M _ h
    · replace h := sm_it c3 h
      refine sm_iconst (q := 169) d_X12_circuitCount_168 rfl ci_1 ?_
      refine sm_goto (t := 173) d_X12_circuitCount_169 rfl ?_
      refine sm_fg [4] ?_
      exact j_X12_circuitCount_173 hx F kb132 kb146 hkb132 hkb146 x1 x3 x5 x4 (1 : Int32) M _ h
def f_X12_circuitCount_146 (F : Nat) (kb132 : Int64 → Int32 → sm_M → Option (Int64 × sm_M)) (n : Nat) : Int64 → Int32 → Int32 → Int32 → sm_M → Option (Int64 × sm_M) := match n with
 | 0 => fun _ _ _ _ _ => none
 | n + 1 => f_X12_circuitCount_146b F kb132 (f_X12_circuitCount_146 F kb132 n)
theorem j_X12_circuitCount_146 {sk : List sm_Sh} (hx : sm_ext skM sk) (F : Nat) (kb132 : Int64 → Int32 → sm_M → Option (Int64 × sm_M)) (hkb132 : ∀ (x1 : Int64) (x3 : Int32) (M : sm_M) (r : Int64 × sm_M), kb132 x1 x3 M = some r → sm_J (md_X12_circuitCount, 10, sk, .inl (some (.long r.1)), r.2) 132 [some (.ref 80), some (.long x1), none, some (.int x3), none, none] [] M) : ∀ (n : Nat) (x1 : Int64) (x3 : Int32) (x4 : Int32) (x5 : Int32) (M : sm_M) (r : Int64 × sm_M), f_X12_circuitCount_146 F kb132 n x1 x3 x4 x5 M = some r → sm_J (md_X12_circuitCount, 10, sk, .inl (some (.long r.1)), r.2) 146 [some (.ref 80), some (.long x1), none, some (.int x3), some (.int x4), some (.int x5)] [] M := by
  intro n
  induction n with
  | zero => intro x1 x3 x4 x5  M r h; exact nomatch (show (none : Option (Int64 × sm_M)) = some r from h)
  | succ n ih => exact j_X12_circuitCount_146b hx F kb132 (f_X12_circuitCount_146 F kb132 n) hkb132 ih
def f_X12_circuitCount_132b (F : Nat) (kb132 : Int64 → Int32 → sm_M → Option (Int64 × sm_M)) (x1 : Int64) (x3 : Int32) (M : sm_M) : Option (Int64 × sm_M) := if (M.1 80 7) ≤ x3 then (some (x1, M)) else (f_X12_circuitCount_146 F kb132 F x1 x3 (0 : Int32) (0 : Int32) M)
set_option maxRecDepth 100000 in
set_option maxHeartbeats 4000000 in
theorem j_X12_circuitCount_132b {sk : List sm_Sh} (hx : sm_ext skM sk) (F : Nat) (kb132 : Int64 → Int32 → sm_M → Option (Int64 × sm_M)) (hkb132 : ∀ (x1 : Int64) (x3 : Int32) (M : sm_M) (r : Int64 × sm_M), kb132 x1 x3 M = some r → sm_J (md_X12_circuitCount, 10, sk, .inl (some (.long r.1)), r.2) 132 [some (.ref 80), some (.long x1), none, some (.int x3), none, none] [] M) : ∀ (x1 : Int64) (x3 : Int32) (M : sm_M) (r : Int64 × sm_M), f_X12_circuitCount_132b F kb132 x1 x3 M = some r → sm_J (md_X12_circuitCount, 10, sk, .inl (some (.long r.1)), r.2) 132 [some (.ref 80), some (.long x1), none, some (.int x3), none, none] [] M := by
  intro x1 x3  M r h
  unfold f_X12_circuitCount_132b at h
  refine sm_iload_n (q := 133) d_X12_circuitCount_132 rfl rfl ?_
  refine sm_aload_n (q := 134) d_X12_circuitCount_133 rfl rfl ?_
  refine sm_geti (q := 137) d_X12_circuitCount_134 rfl fl_X12_100 (hx sx_80) rfl ?_
  refine sm_icmp_ge (q := 140) (t := 229) d_X12_circuitCount_137 rfl rfl (fun c1 => ?_) (fun c1 => ?_)
  · replace h := sm_it c1 h
    refine sm_lload_n (q := 230) d_X12_circuitCount_229 rfl rfl ?_
    obtain rfl := Option.some.inj h
    exact sm_lret d_X12_circuitCount_230 rfl rfl rfl
  · replace h := sm_if c1 h
    refine sm_iconst (q := 141) d_X12_circuitCount_140 rfl ci_0 ?_
    refine sm_istore (q := 143) (lt := [some (.ref 80), some (.long x1), none, some (.int x3), some (.int (0 : Int32)), none]) d_X12_circuitCount_141 rfl (Nat.le_of_ble_eq_true rfl) rfl rfl ?_
    refine sm_iconst (q := 144) d_X12_circuitCount_143 rfl ci_0 ?_
    refine sm_istore (q := 146) (lt := [some (.ref 80), some (.long x1), none, some (.int x3), some (.int (0 : Int32)), some (.int (0 : Int32))]) d_X12_circuitCount_144 rfl (Nat.le_of_ble_eq_true rfl) rfl rfl ?_
    exact j_X12_circuitCount_146 hx F kb132 hkb132 F x1 x3 (0 : Int32) (0 : Int32) M _ h
def f_X12_circuitCount_132 (F : Nat) (n : Nat) : Int64 → Int32 → sm_M → Option (Int64 × sm_M) := match n with
 | 0 => fun _ _ _ => none
 | n + 1 => f_X12_circuitCount_132b F (f_X12_circuitCount_132 F n)
theorem j_X12_circuitCount_132 {sk : List sm_Sh} (hx : sm_ext skM sk) (F : Nat) : ∀ (n : Nat) (x1 : Int64) (x3 : Int32) (M : sm_M) (r : Int64 × sm_M), f_X12_circuitCount_132 F n x1 x3 M = some r → sm_J (md_X12_circuitCount, 10, sk, .inl (some (.long r.1)), r.2) 132 [some (.ref 80), some (.long x1), none, some (.int x3), none, none] [] M := by
  intro n
  induction n with
  | zero => intro x1 x3  M r h; exact nomatch (show (none : Option (Int64 × sm_M)) = some r from h)
  | succ n ih => exact j_X12_circuitCount_132b hx F (f_X12_circuitCount_132 F n) ih
def f_X12_circuitCount_66b (F : Nat) (kb66 : Int32 → sm_M → Option (Int64 × sm_M)) (x1 : Int32) (M : sm_M) : Option (Int64 × sm_M) := if (M.1 80 5) ≤ x1 then ((f_X12_minor F (1 : Int32) (0 : Int32) M).bind fun q2 => f_X12_circuitCount_132 F F q2 (0 : Int32) M) else (sm_g (sm_ib x1 200) (sm_g (sm_ib ((9 : Int32) * (M.1 84 x1.toNatClampNeg)) 64) (sm_g (sm_ib ((9 : Int32) * (M.1 84 x1.toNatClampNeg)) 64) (sm_g (sm_ib x1 200) (sm_g (sm_ib x1 200) (sm_g (sm_ib (((8 : Int32) * ((sm_ml M 100 ((9 : Int32) * (M.1 84 x1.toNatClampNeg)).toNatClampNeg ((M.2 100 ((9 : Int32) * (M.1 84 x1.toNatClampNeg)).toNatClampNeg) + (1 : Int64))).1 84 x1.toNatClampNeg)) + ((sm_ml M 100 ((9 : Int32) * (M.1 84 x1.toNatClampNeg)).toNatClampNeg ((M.2 100 ((9 : Int32) * (M.1 84 x1.toNatClampNeg)).toNatClampNeg) + (1 : Int64))).1 85 x1.toNatClampNeg)) 64) (sm_g (sm_ib (((8 : Int32) * ((sm_ml M 100 ((9 : Int32) * (M.1 84 x1.toNatClampNeg)).toNatClampNeg ((M.2 100 ((9 : Int32) * (M.1 84 x1.toNatClampNeg)).toNatClampNeg) + (1 : Int64))).1 84 x1.toNatClampNeg)) + ((sm_ml M 100 ((9 : Int32) * (M.1 84 x1.toNatClampNeg)).toNatClampNeg ((M.2 100 ((9 : Int32) * (M.1 84 x1.toNatClampNeg)).toNatClampNeg) + (1 : Int64))).1 85 x1.toNatClampNeg)) 64) (kb66 (x1 + 1) ((sm_ml (sm_ml M 100 ((9 : Int32) * (M.1 84 x1.toNatClampNeg)).toNatClampNeg ((M.2 100 ((9 : Int32) * (M.1 84 x1.toNatClampNeg)).toNatClampNeg) + (1 : Int64))) 100 (((8 : Int32) * ((sm_ml M 100 ((9 : Int32) * (M.1 84 x1.toNatClampNeg)).toNatClampNeg ((M.2 100 ((9 : Int32) * (M.1 84 x1.toNatClampNeg)).toNatClampNeg) + (1 : Int64))).1 84 x1.toNatClampNeg)) + ((sm_ml M 100 ((9 : Int32) * (M.1 84 x1.toNatClampNeg)).toNatClampNeg ((M.2 100 ((9 : Int32) * (M.1 84 x1.toNatClampNeg)).toNatClampNeg) + (1 : Int64))).1 85 x1.toNatClampNeg)).toNatClampNeg (((sm_ml M 100 ((9 : Int32) * (M.1 84 x1.toNatClampNeg)).toNatClampNeg ((M.2 100 ((9 : Int32) * (M.1 84 x1.toNatClampNeg)).toNatClampNeg) + (1 : Int64))).2 100 (((8 : Int32) * ((sm_ml M 100 ((9 : Int32) * (M.1 84 x1.toNatClampNeg)).toNatClampNeg ((M.2 100 ((9 : Int32) * (M.1 84 x1.toNatClampNeg)).toNatClampNeg) + (1 : Int64))).1 84 x1.toNatClampNeg)) + ((sm_ml M 100 ((9 : Int32) * (M.1 84 x1.toNatClampNeg)).toNatClampNeg ((M.2 100 ((9 : Int32) * (M.1 84 x1.toNatClampNeg)).toNatClampNeg) + (1 : Int64))).1 85 x1.toNatClampNeg)).toNatClampNeg) - (1 : Int64))))))))))))
set_option maxRecDepth 100000 in
set_option maxHeartbeats 4000000 in
theorem j_X12_circuitCount_66b {sk : List sm_Sh} (hx : sm_ext skM sk) (F : Nat) (kb66 : Int32 → sm_M → Option (Int64 × sm_M)) (hkb66 : ∀ (x1 : Int32) (M : sm_M) (r : Int64 × sm_M), kb66 x1 M = some r → sm_J (md_X12_circuitCount, 10, sk, .inl (some (.long r.1)), r.2) 66 [some (.ref 80), some (.int x1), none, none, none, none] [] M) : ∀ (x1 : Int32) (M : sm_M) (r : Int64 × sm_M), f_X12_circuitCount_66b F kb66 x1 M = some r → sm_J (md_X12_circuitCount, 10, sk, .inl (some (.long r.1)), r.2) 66 [some (.ref 80), some (.int x1), none, none, none, none] [] M := by
  intro x1  M r h
  unfold f_X12_circuitCount_66b at h
  refine sm_iload_n (q := 67) d_X12_circuitCount_66 rfl rfl ?_
  refine sm_aload_n (q := 68) d_X12_circuitCount_67 rfl rfl ?_
  refine sm_geti (q := 71) d_X12_circuitCount_68 rfl fl_X12_97 (hx sx_80) rfl ?_
  refine sm_icmp_ge (q := 74) (t := 123) d_X12_circuitCount_71 rfl rfl (fun c1 => ?_) (fun c1 => ?_)
  · replace h := sm_it c1 h
    refine sm_aload_n (q := 124) d_X12_circuitCount_123 rfl rfl ?_
    refine sm_iconst (q := 125) d_X12_circuitCount_124 rfl ci_1 ?_
    refine sm_iconst (q := 126) d_X12_circuitCount_125 rfl ci_0 ?_
    obtain ⟨q2, e2, h⟩ := sm_bd h
    refine sm_callV (q := 129) (d' := 9) [] [.int (1 : Int32), .int (0 : Int32)] d_X12_circuitCount_126 rfl lk_X12_213 (hx sx_80) rfl rfl rfl (Nat.le_of_ble_eq_true rfl) (Nat.le_of_ble_eq_true rfl) (c_X12_minor hx F (1 : Int32) (0 : Int32) M _ e2) (st9 := [.long q2]) rfl ?_
    refine sm_lstore_n (q := 130) (lt := [some (.ref 80), some (.long q2), none, none, none, none]) d_X12_circuitCount_129 rfl (Nat.le_of_ble_eq_true rfl) rfl rfl ?_
    refine sm_iconst (q := 131) d_X12_circuitCount_130 rfl ci_0 ?_
    refine sm_istore_n (q := 132) (lt := [some (.ref 80), some (.long q2), none, some (.int (0 : Int32)), none, none]) d_X12_circuitCount_131 rfl (Nat.le_of_ble_eq_true rfl) rfl rfl ?_
    exact j_X12_circuitCount_132 hx F F q2 (0 : Int32) M _ h
  · replace h := sm_if c1 h
    refine sm_aload_n (q := 75) d_X12_circuitCount_74 rfl rfl ?_
    refine sm_getr (q := 78) d_X12_circuitCount_75 rfl fl_X12_80 (hx sx_80) rfl ?_
    refine sm_bipush (q := 80) d_X12_circuitCount_78 rfl cb_9 ?_
    refine sm_aload_n (q := 81) d_X12_circuitCount_80 rfl rfl ?_
    refine sm_getr (q := 84) d_X12_circuitCount_81 rfl fl_X12_30 (hx sx_80) rfl ?_
    refine sm_iload_n (q := 85) d_X12_circuitCount_84 rfl rfl ?_
    obtain ⟨g3, h⟩ := sm_gt h
    refine sm_iaload (q := 86) d_X12_circuitCount_85 rfl (hx sx_84) (sm_ib_of g3) ?_
    refine sm_imul (q := 87) d_X12_circuitCount_86 rfl ?_
    refine sm_dup2 (q := 88) d_X12_circuitCount_87 rfl rfl rfl ?_
    obtain ⟨g4, h⟩ := sm_gt h
    refine sm_laload (q := 89) d_X12_circuitCount_88 rfl (hx sx_100) (sm_ib_of g4) ?_
    refine sm_lconst (q := 90) d_X12_circuitCount_89 rfl cl_1 ?_
    refine sm_ladd (q := 91) d_X12_circuitCount_90 rfl ?_
    obtain ⟨g5, h⟩ := sm_gt h
    refine sm_lastore (q := 92) d_X12_circuitCount_91 rfl (hx sx_100) (sm_ib_of g5) ?_
    refine sm_aload_n (q := 93) d_X12_circuitCount_92 rfl rfl ?_
    refine sm_getr (q := 96) d_X12_circuitCount_93 rfl fl_X12_80 (hx sx_80) rfl ?_
    refine sm_bipush (q := 98) d_X12_circuitCount_96 rfl cb_8 ?_
    refine sm_aload_n (q := 99) d_X12_circuitCount_98 rfl rfl ?_
    refine sm_getr (q := 102) d_X12_circuitCount_99 rfl fl_X12_30 (hx sx_80) rfl ?_
    refine sm_iload_n (q := 103) d_X12_circuitCount_102 rfl rfl ?_
    obtain ⟨g6, h⟩ := sm_gt h
    refine sm_iaload (q := 104) d_X12_circuitCount_103 rfl (hx sx_84) (sm_ib_of g6) ?_
    refine sm_imul (q := 105) d_X12_circuitCount_104 rfl ?_
    refine sm_aload_n (q := 106) d_X12_circuitCount_105 rfl rfl ?_
    refine sm_getr (q := 109) d_X12_circuitCount_106 rfl fl_X12_33 (hx sx_80) rfl ?_
    refine sm_iload_n (q := 110) d_X12_circuitCount_109 rfl rfl ?_
    obtain ⟨g7, h⟩ := sm_gt h
    refine sm_iaload (q := 111) d_X12_circuitCount_110 rfl (hx sx_85) (sm_ib_of g7) ?_
    refine sm_iadd (q := 112) d_X12_circuitCount_111 rfl ?_
    refine sm_dup2 (q := 113) d_X12_circuitCount_112 rfl rfl rfl ?_
    obtain ⟨g8, h⟩ := sm_gt h
    refine sm_laload (q := 114) d_X12_circuitCount_113 rfl (hx sx_100) (sm_ib_of g8) ?_
    refine sm_lconst (q := 115) d_X12_circuitCount_114 rfl cl_1 ?_
    refine sm_lsub (q := 116) d_X12_circuitCount_115 rfl ?_
    obtain ⟨g9, h⟩ := sm_gt h
    refine sm_lastore (q := 117) d_X12_circuitCount_116 rfl (hx sx_100) (sm_ib_of g9) ?_
    refine sm_iinc (q := 120) (v := (x1 + 1)) (lt := [some (.ref 80), some (.int (x1 + 1)), none, none, none, none]) d_X12_circuitCount_117 rfl rfl (ii_1 _) (Nat.le_of_ble_eq_true rfl) rfl rfl ?_
    refine sm_goto (t := 66) d_X12_circuitCount_120 rfl ?_
    exact hkb66 (x1 + 1) ((sm_ml (sm_ml M 100 ((9 : Int32) * (M.1 84 x1.toNatClampNeg)).toNatClampNeg ((M.2 100 ((9 : Int32) * (M.1 84 x1.toNatClampNeg)).toNatClampNeg) + (1 : Int64))) 100 (((8 : Int32) * ((sm_ml M 100 ((9 : Int32) * (M.1 84 x1.toNatClampNeg)).toNatClampNeg ((M.2 100 ((9 : Int32) * (M.1 84 x1.toNatClampNeg)).toNatClampNeg) + (1 : Int64))).1 84 x1.toNatClampNeg)) + ((sm_ml M 100 ((9 : Int32) * (M.1 84 x1.toNatClampNeg)).toNatClampNeg ((M.2 100 ((9 : Int32) * (M.1 84 x1.toNatClampNeg)).toNatClampNeg) + (1 : Int64))).1 85 x1.toNatClampNeg)).toNatClampNeg (((sm_ml M 100 ((9 : Int32) * (M.1 84 x1.toNatClampNeg)).toNatClampNeg ((M.2 100 ((9 : Int32) * (M.1 84 x1.toNatClampNeg)).toNatClampNeg) + (1 : Int64))).2 100 (((8 : Int32) * ((sm_ml M 100 ((9 : Int32) * (M.1 84 x1.toNatClampNeg)).toNatClampNeg ((M.2 100 ((9 : Int32) * (M.1 84 x1.toNatClampNeg)).toNatClampNeg) + (1 : Int64))).1 84 x1.toNatClampNeg)) + ((sm_ml M 100 ((9 : Int32) * (M.1 84 x1.toNatClampNeg)).toNatClampNeg ((M.2 100 ((9 : Int32) * (M.1 84 x1.toNatClampNeg)).toNatClampNeg) + (1 : Int64))).1 85 x1.toNatClampNeg)).toNatClampNeg) - (1 : Int64)))) _ h
def f_X12_circuitCount_66 (F : Nat) (n : Nat) : Int32 → sm_M → Option (Int64 × sm_M) := match n with
 | 0 => fun _ _ => none
 | n + 1 => f_X12_circuitCount_66b F (f_X12_circuitCount_66 F n)
theorem j_X12_circuitCount_66 {sk : List sm_Sh} (hx : sm_ext skM sk) (F : Nat) : ∀ (n : Nat) (x1 : Int32) (M : sm_M) (r : Int64 × sm_M), f_X12_circuitCount_66 F n x1 M = some r → sm_J (md_X12_circuitCount, 10, sk, .inl (some (.long r.1)), r.2) 66 [some (.ref 80), some (.int x1), none, none, none, none] [] M := by
  intro n
  induction n with
  | zero => intro x1  M r h; exact nomatch (show (none : Option (Int64 × sm_M)) = some r from h)
  | succ n ih => exact j_X12_circuitCount_66b hx F (f_X12_circuitCount_66 F n) ih
def f_X12_circuitCount_45b (F : Nat) (kb45 : Int32 → sm_M → Option (Int64 × sm_M)) (x1 : Int32) (M : sm_M) : Option (Int64 × sm_M) := if (64 : Int32) ≤ x1 then (f_X12_circuitCount_66 F F (0 : Int32) M) else (sm_g (sm_ib x1 64) (kb45 (x1 + 1) ((sm_ml M 100 x1.toNatClampNeg (0 : Int64)))))
set_option maxRecDepth 100000 in
set_option maxHeartbeats 4000000 in
theorem j_X12_circuitCount_45b {sk : List sm_Sh} (hx : sm_ext skM sk) (F : Nat) (kb45 : Int32 → sm_M → Option (Int64 × sm_M)) (hkb45 : ∀ (x1 : Int32) (M : sm_M) (r : Int64 × sm_M), kb45 x1 M = some r → sm_J (md_X12_circuitCount, 10, sk, .inl (some (.long r.1)), r.2) 45 [some (.ref 80), some (.int x1), none, none, none, none] [] M) : ∀ (x1 : Int32) (M : sm_M) (r : Int64 × sm_M), f_X12_circuitCount_45b F kb45 x1 M = some r → sm_J (md_X12_circuitCount, 10, sk, .inl (some (.long r.1)), r.2) 45 [some (.ref 80), some (.int x1), none, none, none, none] [] M := by
  intro x1  M r h
  unfold f_X12_circuitCount_45b at h
  refine sm_iload_n (q := 46) d_X12_circuitCount_45 rfl rfl ?_
  refine sm_bipush (q := 48) d_X12_circuitCount_46 rfl cb_64 ?_
  refine sm_icmp_ge (q := 51) (t := 64) d_X12_circuitCount_48 rfl rfl (fun c1 => ?_) (fun c1 => ?_)
  · replace h := sm_it c1 h
    refine sm_iconst (q := 65) d_X12_circuitCount_64 rfl ci_0 ?_
    refine sm_istore_n (q := 66) (lt := [some (.ref 80), some (.int (0 : Int32)), none, none, none, none]) d_X12_circuitCount_65 rfl (Nat.le_of_ble_eq_true rfl) rfl rfl ?_
    exact j_X12_circuitCount_66 hx F F (0 : Int32) M _ h
  · replace h := sm_if c1 h
    refine sm_aload_n (q := 52) d_X12_circuitCount_51 rfl rfl ?_
    refine sm_getr (q := 55) d_X12_circuitCount_52 rfl fl_X12_80 (hx sx_80) rfl ?_
    refine sm_iload_n (q := 56) d_X12_circuitCount_55 rfl rfl ?_
    refine sm_lconst (q := 57) d_X12_circuitCount_56 rfl cl_0 ?_
    obtain ⟨g2, h⟩ := sm_gt h
    refine sm_lastore (q := 58) d_X12_circuitCount_57 rfl (hx sx_100) (sm_ib_of g2) ?_
    refine sm_iinc (q := 61) (v := (x1 + 1)) (lt := [some (.ref 80), some (.int (x1 + 1)), none, none, none, none]) d_X12_circuitCount_58 rfl rfl (ii_1 _) (Nat.le_of_ble_eq_true rfl) rfl rfl ?_
    refine sm_goto (t := 45) d_X12_circuitCount_61 rfl ?_
    exact hkb45 (x1 + 1) ((sm_ml M 100 x1.toNatClampNeg (0 : Int64))) _ h
def f_X12_circuitCount_45 (F : Nat) (n : Nat) : Int32 → sm_M → Option (Int64 × sm_M) := match n with
 | 0 => fun _ _ => none
 | n + 1 => f_X12_circuitCount_45b F (f_X12_circuitCount_45 F n)
theorem j_X12_circuitCount_45 {sk : List sm_Sh} (hx : sm_ext skM sk) (F : Nat) : ∀ (n : Nat) (x1 : Int32) (M : sm_M) (r : Int64 × sm_M), f_X12_circuitCount_45 F n x1 M = some r → sm_J (md_X12_circuitCount, 10, sk, .inl (some (.long r.1)), r.2) 45 [some (.ref 80), some (.int x1), none, none, none, none] [] M := by
  intro n
  induction n with
  | zero => intro x1  M r h; exact nomatch (show (none : Option (Int64 × sm_M)) = some r from h)
  | succ n ih => exact j_X12_circuitCount_45b hx F (f_X12_circuitCount_45 F n) ih
def f_X12_circuitCount (F : Nat) (M : sm_M) : Option (Int64 × sm_M) := if (((sm_mi M 80 0 (0 : Int32))).1 80 1) = (3 : Int32) then (f_X12_circuitCount_22 F ((sm_mi M 80 0 (0 : Int32)))) else (if (((sm_mi M 80 0 (0 : Int32))).1 80 7) ≤ (8 : Int32) then ((f_X12_findCircuit F (sm_mi M 80 0 (0 : Int32))).bind fun q3 => if q3.1 = 0 then ((f_X12_fail F (2 : Int32) q3.2).bind fun q5 => some (q5.1.toInt64, q5.2)) else (f_X12_circuitCount_45 F F (0 : Int32) q3.2)) else (f_X12_circuitCount_22 F ((sm_mi M 80 0 (0 : Int32)))))
set_option maxRecDepth 100000 in
set_option maxHeartbeats 4000000 in
theorem j_X12_circuitCount {sk : List sm_Sh} (hx : sm_ext skM sk) (F : Nat) : ∀ (M : sm_M) (r : Int64 × sm_M), f_X12_circuitCount F M = some r → sm_J (md_X12_circuitCount, 10, sk, .inl (some (.long r.1)), r.2) 0 [some (.ref 80), none, none, none, none, none] [] M := by
  intro   M r h
  unfold f_X12_circuitCount at h
  refine sm_aload_n (q := 1) d_X12_circuitCount_0 rfl rfl ?_
  refine sm_iconst (q := 2) d_X12_circuitCount_1 rfl ci_0 ?_
  refine sm_puti (q := 5) d_X12_circuitCount_2 rfl fw_X12_1 (hx sx_80) rfl rfl rfl ?_
  refine sm_aload_n (q := 6) d_X12_circuitCount_5 rfl rfl ?_
  refine sm_geti (q := 9) d_X12_circuitCount_6 rfl fl_X12_90 (hx sx_80) rfl ?_
  refine sm_iconst (q := 10) d_X12_circuitCount_9 rfl ci_3 ?_
  refine sm_icmp_eq (q := 13) (t := 22) d_X12_circuitCount_10 rfl rfl (fun c1 => ?_) (fun c1 => ?_)
  · replace h := sm_it c1 h
    exact j_X12_circuitCount_22 hx F ((sm_mi M 80 0 (0 : Int32))) _ h
  · replace h := sm_if c1 h
    refine sm_aload_n (q := 14) d_X12_circuitCount_13 rfl rfl ?_
    refine sm_geti (q := 17) d_X12_circuitCount_14 rfl fl_X12_100 (hx sx_80) rfl ?_
    refine sm_bipush (q := 19) d_X12_circuitCount_17 rfl cb_8 ?_
    refine sm_icmp_le (q := 22) (t := 29) d_X12_circuitCount_19 rfl rfl (fun c2 => ?_) (fun c2 => ?_)
    · replace h := sm_it c2 h
      refine sm_aload_n (q := 30) d_X12_circuitCount_29 rfl rfl ?_
      obtain ⟨q3, e3, h⟩ := sm_bd h
      refine sm_callV (q := 33) (d' := 0) [] [] d_X12_circuitCount_30 rfl lk_X12_217 (hx sx_80) rfl rfl rfl (Nat.le_of_ble_eq_true rfl) (Nat.le_of_ble_eq_true rfl) (c_X12_findCircuit hx F (sm_mi M 80 0 (0 : Int32)) _ e3) (st9 := [.int q3.1]) rfl ?_
      refine sm_if_ne (q := 36) (t := 43) d_X12_circuitCount_33 rfl rfl (fun c4 => ?_) (fun c4 => ?_)
      · replace h := sm_if c4 h
        refine sm_iconst (q := 44) d_X12_circuitCount_43 rfl ci_0 ?_
        refine sm_istore_n (q := 45) (lt := [some (.ref 80), some (.int (0 : Int32)), none, none, none, none]) d_X12_circuitCount_44 rfl (Nat.le_of_ble_eq_true rfl) rfl rfl ?_
        exact j_X12_circuitCount_45 hx F F (0 : Int32) q3.2 _ h
      · replace h := sm_it c4 h
        refine sm_aload_n (q := 37) d_X12_circuitCount_36 rfl rfl ?_
        refine sm_iconst (q := 38) d_X12_circuitCount_37 rfl ci_2 ?_
        obtain ⟨q5, e5, h⟩ := sm_bd h
        refine sm_callV (q := 41) (d' := 0) [] [.int (2 : Int32)] d_X12_circuitCount_38 rfl lk_X12_122 (hx sx_80) rfl rfl rfl (Nat.le_of_ble_eq_true rfl) (Nat.le_of_ble_eq_true rfl) (c_X12_fail hx F (2 : Int32) q3.2 _ e5) (st9 := [.int q5.1]) rfl ?_
        refine sm_i2l (q := 42) d_X12_circuitCount_41 rfl ?_
        obtain rfl := Option.some.inj h
        exact sm_lret d_X12_circuitCount_42 rfl rfl rfl
    · replace h := sm_if c2 h
      exact j_X12_circuitCount_22 hx F ((sm_mi M 80 0 (0 : Int32))) _ h
theorem c_X12_circuitCount {sk : List sm_Sh} (hx : sm_ext skM sk) (F : Nat) (M : sm_M) (r : Int64 × sm_M) (h : f_X12_circuitCount F M = some r) : sm_Ct yX12_circuitCount md_X12_circuitCount 10 sk [.ref 80] M (.inl (some (.long r.1))) r.2 := sm_enter 5 pn_X12 rfl (Nat.le_of_ble_eq_true rfl) rfl (j_X12_circuitCount hx F M r h)
/-! UniversalCyclesModel.circuitEdge(I)I -/
theorem d_X12_circuitEdge_0 : decode cX12_circuitEdge 0 = .ok (.aload_n 0, 1) := by decide +kernel
theorem d_X12_circuitEdge_1 : decode cX12_circuitEdge 1 = .ok (.iconst 0, 1) := by decide +kernel
theorem d_X12_circuitEdge_2 : decode cX12_circuitEdge 2 = .ok (.putfield 1, 3) := by decide +kernel
theorem d_X12_circuitEdge_5 : decode cX12_circuitEdge 5 = .ok (.aload_n 0, 1) := by decide +kernel
theorem d_X12_circuitEdge_6 : decode cX12_circuitEdge 6 = .ok (.getfield 90, 3) := by decide +kernel
theorem d_X12_circuitEdge_9 : decode cX12_circuitEdge 9 = .ok (.iconst 3, 1) := by decide +kernel
theorem d_X12_circuitEdge_10 : decode cX12_circuitEdge 10 = .ok (.if_icmp .ne 9, 3) := by decide +kernel
theorem d_X12_circuitEdge_13 : decode cX12_circuitEdge 13 = .ok (.aload_n 0, 1) := by decide +kernel
theorem d_X12_circuitEdge_14 : decode cX12_circuitEdge 14 = .ok (.iconst 1, 1) := by decide +kernel
theorem d_X12_circuitEdge_15 : decode cX12_circuitEdge 15 = .ok (.invokevirtual 122, 3) := by decide +kernel
theorem d_X12_circuitEdge_18 : decode cX12_circuitEdge 18 = .ok (.ireturn, 1) := by decide +kernel
theorem d_X12_circuitEdge_19 : decode cX12_circuitEdge 19 = .ok (.aload_n 0, 1) := by decide +kernel
theorem d_X12_circuitEdge_20 : decode cX12_circuitEdge 20 = .ok (.invokevirtual 217, 3) := by decide +kernel
theorem d_X12_circuitEdge_23 : decode cX12_circuitEdge 23 = .ok (.ifCond .ne 9, 3) := by decide +kernel
theorem d_X12_circuitEdge_26 : decode cX12_circuitEdge 26 = .ok (.aload_n 0, 1) := by decide +kernel
theorem d_X12_circuitEdge_27 : decode cX12_circuitEdge 27 = .ok (.iconst 2, 1) := by decide +kernel
theorem d_X12_circuitEdge_28 : decode cX12_circuitEdge 28 = .ok (.invokevirtual 122, 3) := by decide +kernel
theorem d_X12_circuitEdge_31 : decode cX12_circuitEdge 31 = .ok (.ireturn, 1) := by decide +kernel
theorem d_X12_circuitEdge_32 : decode cX12_circuitEdge 32 = .ok (.iload_n 1, 1) := by decide +kernel
theorem d_X12_circuitEdge_33 : decode cX12_circuitEdge 33 = .ok (.iconst 0, 1) := by decide +kernel
theorem d_X12_circuitEdge_34 : decode cX12_circuitEdge 34 = .ok (.aload_n 0, 1) := by decide +kernel
theorem d_X12_circuitEdge_35 : decode cX12_circuitEdge 35 = .ok (.getfield 97, 3) := by decide +kernel
theorem d_X12_circuitEdge_38 : decode cX12_circuitEdge 38 = .ok (.iconst 1, 1) := by decide +kernel
theorem d_X12_circuitEdge_39 : decode cX12_circuitEdge 39 = .ok (.isub, 1) := by decide +kernel
theorem d_X12_circuitEdge_40 : decode cX12_circuitEdge 40 = .ok (.invokestatic 115, 3) := by decide +kernel
theorem d_X12_circuitEdge_43 : decode cX12_circuitEdge 43 = .ok (.ifCond .eq 12, 3) := by decide +kernel
theorem d_X12_circuitEdge_46 : decode cX12_circuitEdge 46 = .ok (.aload_n 0, 1) := by decide +kernel
theorem d_X12_circuitEdge_47 : decode cX12_circuitEdge 47 = .ok (.getfield 77, 3) := by decide +kernel
theorem d_X12_circuitEdge_50 : decode cX12_circuitEdge 50 = .ok (.iload_n 1, 1) := by decide +kernel
theorem d_X12_circuitEdge_51 : decode cX12_circuitEdge 51 = .ok (.iaload, 1) := by decide +kernel
theorem d_X12_circuitEdge_52 : decode cX12_circuitEdge 52 = .ok (.goto 8, 3) := by decide +kernel
theorem d_X12_circuitEdge_55 : decode cX12_circuitEdge 55 = .ok (.aload_n 0, 1) := by decide +kernel
theorem d_X12_circuitEdge_56 : decode cX12_circuitEdge 56 = .ok (.iconst 3, 1) := by decide +kernel
theorem d_X12_circuitEdge_57 : decode cX12_circuitEdge 57 = .ok (.invokevirtual 122, 3) := by decide +kernel
theorem d_X12_circuitEdge_60 : decode cX12_circuitEdge 60 = .ok (.ireturn, 1) := by decide +kernel
def f_X12_circuitEdge_60 (F : Nat) (y0 : Int32) (M : sm_M) : Option (Int32 × sm_M) := some (y0, M)
set_option maxRecDepth 100000 in
set_option maxHeartbeats 4000000 in
theorem j_X12_circuitEdge_60 {sk : List sm_Sh} (hx : sm_ext skM sk) (F : Nat) : ∀ (y0 : Int32) (M : sm_M) (r : Int32 × sm_M), f_X12_circuitEdge_60 F y0 M = some r → sm_J (md_X12_circuitEdge, 1, sk, .inl (some (.int r.1)), r.2) 60 [none, none] [.int y0] M := by
  intro y0  M r h
  unfold f_X12_circuitEdge_60 at h
  obtain rfl := Option.some.inj h
  exact sm_iret d_X12_circuitEdge_60 rfl rfl rfl rfl
def f_X12_circuitEdge (F : Nat) (x1 : Int32) (M : sm_M) : Option (Int32 × sm_M) := if (((sm_mi M 80 0 (0 : Int32))).1 80 1) = (3 : Int32) then ((f_X12_fail F (1 : Int32) (sm_mi M 80 0 (0 : Int32))).bind fun q9 => some (q9.1, q9.2)) else ((f_X12_findCircuit F (sm_mi M 80 0 (0 : Int32))).bind fun q2 => if q2.1 = 0 then ((f_X12_fail F (2 : Int32) q2.2).bind fun q8 => some (q8.1, q8.2)) else ((f_X12_isIn F x1 (0 : Int32) ((q2.2.1 80 5) - (1 : Int32)) q2.2).bind fun q4 => if q4 = 0 then ((f_X12_fail F (3 : Int32) q2.2).bind fun q6 => f_X12_circuitEdge_60 F q6.1 q6.2) else (sm_g (sm_ib x1 200) (f_X12_circuitEdge_60 F (q2.2.1 99 x1.toNatClampNeg) q2.2))))
set_option maxRecDepth 100000 in
set_option maxHeartbeats 4000000 in
theorem j_X12_circuitEdge {sk : List sm_Sh} (hx : sm_ext skM sk) (F : Nat) : ∀ (x1 : Int32) (M : sm_M) (r : Int32 × sm_M), f_X12_circuitEdge F x1 M = some r → sm_J (md_X12_circuitEdge, 1, sk, .inl (some (.int r.1)), r.2) 0 [some (.ref 80), some (.int x1)] [] M := by
  intro x1  M r h
  unfold f_X12_circuitEdge at h
  refine sm_aload_n (q := 1) d_X12_circuitEdge_0 rfl rfl ?_
  refine sm_iconst (q := 2) d_X12_circuitEdge_1 rfl ci_0 ?_
  refine sm_puti (q := 5) d_X12_circuitEdge_2 rfl fw_X12_1 (hx sx_80) rfl rfl rfl ?_
  refine sm_aload_n (q := 6) d_X12_circuitEdge_5 rfl rfl ?_
  refine sm_geti (q := 9) d_X12_circuitEdge_6 rfl fl_X12_90 (hx sx_80) rfl ?_
  refine sm_iconst (q := 10) d_X12_circuitEdge_9 rfl ci_3 ?_
  refine sm_icmp_ne (q := 13) (t := 19) d_X12_circuitEdge_10 rfl rfl (fun c1 => ?_) (fun c1 => ?_)
  · replace h := sm_if c1 h
    refine sm_aload_n (q := 20) d_X12_circuitEdge_19 rfl rfl ?_
    obtain ⟨q2, e2, h⟩ := sm_bd h
    refine sm_callV (q := 23) (d' := 0) [] [] d_X12_circuitEdge_20 rfl lk_X12_217 (hx sx_80) rfl rfl rfl (Nat.le_of_ble_eq_true rfl) (Nat.le_of_ble_eq_true rfl) (c_X12_findCircuit hx F (sm_mi M 80 0 (0 : Int32)) _ e2) (st9 := [.int q2.1]) rfl ?_
    refine sm_if_ne (q := 26) (t := 32) d_X12_circuitEdge_23 rfl rfl (fun c3 => ?_) (fun c3 => ?_)
    · replace h := sm_if c3 h
      refine sm_iload_n (q := 33) d_X12_circuitEdge_32 rfl rfl ?_
      refine sm_iconst (q := 34) d_X12_circuitEdge_33 rfl ci_0 ?_
      refine sm_aload_n (q := 35) d_X12_circuitEdge_34 rfl rfl ?_
      refine sm_geti (q := 38) d_X12_circuitEdge_35 rfl fl_X12_97 (hx sx_80) rfl ?_
      refine sm_iconst (q := 39) d_X12_circuitEdge_38 rfl ci_1 ?_
      refine sm_isub (q := 40) d_X12_circuitEdge_39 rfl ?_
      obtain ⟨q4, e4, h⟩ := sm_bd h
      refine sm_callS (q := 43) (d' := 0) [] [.int x1, .int (0 : Int32), .int ((q2.2.1 80 5) - (1 : Int32))] d_X12_circuitEdge_40 rfl lk_X12_115 rfl (Nat.le_of_ble_eq_true rfl) (Nat.le_of_ble_eq_true rfl) (c_X12_isIn hx F x1 (0 : Int32) ((q2.2.1 80 5) - (1 : Int32)) q2.2 _ e4) (st9 := [.int q4]) rfl ?_
      refine sm_if_eq (q := 46) (t := 55) d_X12_circuitEdge_43 rfl rfl (fun c5 => ?_) (fun c5 => ?_)
      · replace h := sm_it c5 h
        refine sm_aload_n (q := 56) d_X12_circuitEdge_55 rfl rfl ?_
        refine sm_iconst (q := 57) d_X12_circuitEdge_56 rfl ci_3 ?_
        obtain ⟨q6, e6, h⟩ := sm_bd h
        refine sm_callV (q := 60) (d' := 0) [] [.int (3 : Int32)] d_X12_circuitEdge_57 rfl lk_X12_122 (hx sx_80) rfl rfl rfl (Nat.le_of_ble_eq_true rfl) (Nat.le_of_ble_eq_true rfl) (c_X12_fail hx F (3 : Int32) q2.2 _ e6) (st9 := [.int q6.1]) rfl ?_
        refine sm_fg [0, 1] ?_
        exact j_X12_circuitEdge_60 hx F q6.1 q6.2 _ h
      · replace h := sm_if c5 h
        refine sm_aload_n (q := 47) d_X12_circuitEdge_46 rfl rfl ?_
        refine sm_getr (q := 50) d_X12_circuitEdge_47 rfl fl_X12_77 (hx sx_80) rfl ?_
        refine sm_iload_n (q := 51) d_X12_circuitEdge_50 rfl rfl ?_
        obtain ⟨g7, h⟩ := sm_gt h
        refine sm_iaload (q := 52) d_X12_circuitEdge_51 rfl (hx sx_99) (sm_ib_of g7) ?_
        refine sm_goto (t := 60) d_X12_circuitEdge_52 rfl ?_
        refine sm_fg [0, 1] ?_
        exact j_X12_circuitEdge_60 hx F (q2.2.1 99 x1.toNatClampNeg) q2.2 _ h
    · replace h := sm_it c3 h
      refine sm_aload_n (q := 27) d_X12_circuitEdge_26 rfl rfl ?_
      refine sm_iconst (q := 28) d_X12_circuitEdge_27 rfl ci_2 ?_
      obtain ⟨q8, e8, h⟩ := sm_bd h
      refine sm_callV (q := 31) (d' := 0) [] [.int (2 : Int32)] d_X12_circuitEdge_28 rfl lk_X12_122 (hx sx_80) rfl rfl rfl (Nat.le_of_ble_eq_true rfl) (Nat.le_of_ble_eq_true rfl) (c_X12_fail hx F (2 : Int32) q2.2 _ e8) (st9 := [.int q8.1]) rfl ?_
      obtain rfl := Option.some.inj h
      exact sm_iret d_X12_circuitEdge_31 rfl rfl rfl rfl
  · replace h := sm_it c1 h
    refine sm_aload_n (q := 14) d_X12_circuitEdge_13 rfl rfl ?_
    refine sm_iconst (q := 15) d_X12_circuitEdge_14 rfl ci_1 ?_
    obtain ⟨q9, e9, h⟩ := sm_bd h
    refine sm_callV (q := 18) (d' := 0) [] [.int (1 : Int32)] d_X12_circuitEdge_15 rfl lk_X12_122 (hx sx_80) rfl rfl rfl (Nat.le_of_ble_eq_true rfl) (Nat.le_of_ble_eq_true rfl) (c_X12_fail hx F (1 : Int32) (sm_mi M 80 0 (0 : Int32)) _ e9) (st9 := [.int q9.1]) rfl ?_
    obtain rfl := Option.some.inj h
    exact sm_iret d_X12_circuitEdge_18 rfl rfl rfl rfl
theorem c_X12_circuitEdge {sk : List sm_Sh} (hx : sm_ext skM sk) (F : Nat) (x1 : Int32) (M : sm_M) (r : Int32 × sm_M) (h : f_X12_circuitEdge F x1 M = some r) : sm_Ct yX12_circuitEdge md_X12_circuitEdge 1 sk [.ref 80, .int x1] M (.inl (some (.int r.1))) r.2 := sm_enter 0 pn_X12 rfl (Nat.le_of_ble_eq_true rfl) rfl (j_X12_circuitEdge hx F x1 M r h)
/-! UniversalCyclesModel.order()Z -/
theorem d_X12_order_0 : decode cX12_order 0 = .ok (.iconst 0, 1) := by decide +kernel
theorem d_X12_order_1 : decode cX12_order 1 = .ok (.istore_n 1, 1) := by decide +kernel
theorem d_X12_order_2 : decode cX12_order 2 = .ok (.iload_n 1, 1) := by decide +kernel
theorem d_X12_order_3 : decode cX12_order 3 = .ok (.aload_n 0, 1) := by decide +kernel
theorem d_X12_order_4 : decode cX12_order 4 = .ok (.getfield 97, 3) := by decide +kernel
theorem d_X12_order_7 : decode cX12_order 7 = .ok (.if_icmp .ge 16, 3) := by decide +kernel
theorem d_X12_order_10 : decode cX12_order 10 = .ok (.aload_n 0, 1) := by decide +kernel
theorem d_X12_order_11 : decode cX12_order 11 = .ok (.getfield 45, 3) := by decide +kernel
theorem d_X12_order_14 : decode cX12_order 14 = .ok (.iload_n 1, 1) := by decide +kernel
theorem d_X12_order_15 : decode cX12_order 15 = .ok (.iconst 0, 1) := by decide +kernel
theorem d_X12_order_16 : decode cX12_order 16 = .ok (.iastore, 1) := by decide +kernel
theorem d_X12_order_17 : decode cX12_order 17 = .ok (.iinc 1 1, 3) := by decide +kernel
theorem d_X12_order_20 : decode cX12_order 20 = .ok (.goto (-18), 3) := by decide +kernel
theorem d_X12_order_23 : decode cX12_order 23 = .ok (.iconst 1, 1) := by decide +kernel
theorem d_X12_order_24 : decode cX12_order 24 = .ok (.istore_n 1, 1) := by decide +kernel
theorem d_X12_order_25 : decode cX12_order 25 = .ok (.iconst 0, 1) := by decide +kernel
theorem d_X12_order_26 : decode cX12_order 26 = .ok (.istore_n 2, 1) := by decide +kernel
theorem d_X12_order_27 : decode cX12_order 27 = .ok (.iload_n 2, 1) := by decide +kernel
theorem d_X12_order_28 : decode cX12_order 28 = .ok (.aload_n 0, 1) := by decide +kernel
theorem d_X12_order_29 : decode cX12_order 29 = .ok (.getfield 97, 3) := by decide +kernel
theorem d_X12_order_32 : decode cX12_order 32 = .ok (.if_icmp .gt 176, 3) := by decide +kernel
theorem d_X12_order_35 : decode cX12_order 35 = .ok (.iload_n 1, 1) := by decide +kernel
theorem d_X12_order_36 : decode cX12_order 36 = .ok (.ifCond .eq 172, 3) := by decide +kernel
theorem d_X12_order_39 : decode cX12_order 39 = .ok (.iconst 0, 1) := by decide +kernel
theorem d_X12_order_40 : decode cX12_order 40 = .ok (.istore_n 1, 1) := by decide +kernel
theorem d_X12_order_41 : decode cX12_order 41 = .ok (.iconst 0, 1) := by decide +kernel
theorem d_X12_order_42 : decode cX12_order 42 = .ok (.istore_n 3, 1) := by decide +kernel
theorem d_X12_order_43 : decode cX12_order 43 = .ok (.iload_n 3, 1) := by decide +kernel
theorem d_X12_order_44 : decode cX12_order 44 = .ok (.aload_n 0, 1) := by decide +kernel
theorem d_X12_order_45 : decode cX12_order 45 = .ok (.getfield 97, 3) := by decide +kernel
theorem d_X12_order_48 : decode cX12_order 48 = .ok (.if_icmp .ge 154, 3) := by decide +kernel
theorem d_X12_order_51 : decode cX12_order 51 = .ok (.iconst 0, 1) := by decide +kernel
theorem d_X12_order_52 : decode cX12_order 52 = .ok (.istore 4, 2) := by decide +kernel
theorem d_X12_order_54 : decode cX12_order 54 = .ok (.iload 4, 2) := by decide +kernel
theorem d_X12_order_56 : decode cX12_order 56 = .ok (.aload_n 0, 1) := by decide +kernel
theorem d_X12_order_57 : decode cX12_order 57 = .ok (.getfield 13, 3) := by decide +kernel
theorem d_X12_order_60 : decode cX12_order 60 = .ok (.aload_n 0, 1) := by decide +kernel
theorem d_X12_order_61 : decode cX12_order 61 = .ok (.getfield 13, 3) := by decide +kernel
theorem d_X12_order_64 : decode cX12_order 64 = .ok (.imul, 1) := by decide +kernel
theorem d_X12_order_65 : decode cX12_order 65 = .ok (.if_icmp .ge 131, 3) := by decide +kernel
theorem d_X12_order_68 : decode cX12_order 68 = .ok (.iload 4, 2) := by decide +kernel
theorem d_X12_order_70 : decode cX12_order 70 = .ok (.aload_n 0, 1) := by decide +kernel
theorem d_X12_order_71 : decode cX12_order 71 = .ok (.getfield 13, 3) := by decide +kernel
theorem d_X12_order_74 : decode cX12_order 74 = .ok (.idiv, 1) := by decide +kernel
theorem d_X12_order_75 : decode cX12_order 75 = .ok (.istore 5, 2) := by decide +kernel
theorem d_X12_order_77 : decode cX12_order 77 = .ok (.iload 4, 2) := by decide +kernel
theorem d_X12_order_79 : decode cX12_order 79 = .ok (.aload_n 0, 1) := by decide +kernel
theorem d_X12_order_80 : decode cX12_order 80 = .ok (.getfield 13, 3) := by decide +kernel
theorem d_X12_order_83 : decode cX12_order 83 = .ok (.irem, 1) := by decide +kernel
theorem d_X12_order_84 : decode cX12_order 84 = .ok (.istore 6, 2) := by decide +kernel
theorem d_X12_order_86 : decode cX12_order 86 = .ok (.iload_n 3, 1) := by decide +kernel
theorem d_X12_order_87 : decode cX12_order 87 = .ok (.iload 5, 2) := by decide +kernel
theorem d_X12_order_89 : decode cX12_order 89 = .ok (.iadd, 1) := by decide +kernel
theorem d_X12_order_90 : decode cX12_order 90 = .ok (.aload_n 0, 1) := by decide +kernel
theorem d_X12_order_91 : decode cX12_order 91 = .ok (.getfield 97, 3) := by decide +kernel
theorem d_X12_order_94 : decode cX12_order 94 = .ok (.irem, 1) := by decide +kernel
theorem d_X12_order_95 : decode cX12_order 95 = .ok (.istore 7, 2) := by decide +kernel
theorem d_X12_order_97 : decode cX12_order 97 = .ok (.iload_n 3, 1) := by decide +kernel
theorem d_X12_order_98 : decode cX12_order 98 = .ok (.iload 6, 2) := by decide +kernel
theorem d_X12_order_100 : decode cX12_order 100 = .ok (.iadd, 1) := by decide +kernel
theorem d_X12_order_101 : decode cX12_order 101 = .ok (.aload_n 0, 1) := by decide +kernel
theorem d_X12_order_102 : decode cX12_order 102 = .ok (.getfield 97, 3) := by decide +kernel
theorem d_X12_order_105 : decode cX12_order 105 = .ok (.irem, 1) := by decide +kernel
theorem d_X12_order_106 : decode cX12_order 106 = .ok (.istore 8, 2) := by decide +kernel
theorem d_X12_order_108 : decode cX12_order 108 = .ok (.aload_n 0, 1) := by decide +kernel
theorem d_X12_order_109 : decode cX12_order 109 = .ok (.getfield 19, 3) := by decide +kernel
theorem d_X12_order_112 : decode cX12_order 112 = .ok (.iconst 5, 1) := by decide +kernel
theorem d_X12_order_113 : decode cX12_order 113 = .ok (.aload_n 0, 1) := by decide +kernel
theorem d_X12_order_114 : decode cX12_order 114 = .ok (.getfield 77, 3) := by decide +kernel
theorem d_X12_order_117 : decode cX12_order 117 = .ok (.iload_n 3, 1) := by decide +kernel
theorem d_X12_order_118 : decode cX12_order 118 = .ok (.iaload, 1) := by decide +kernel
theorem d_X12_order_119 : decode cX12_order 119 = .ok (.imul, 1) := by decide +kernel
theorem d_X12_order_120 : decode cX12_order 120 = .ok (.iload 5, 2) := by decide +kernel
theorem d_X12_order_122 : decode cX12_order 122 = .ok (.iadd, 1) := by decide +kernel
theorem d_X12_order_123 : decode cX12_order 123 = .ok (.iaload, 1) := by decide +kernel
theorem d_X12_order_124 : decode cX12_order 124 = .ok (.aload_n 0, 1) := by decide +kernel
theorem d_X12_order_125 : decode cX12_order 125 = .ok (.getfield 19, 3) := by decide +kernel
theorem d_X12_order_128 : decode cX12_order 128 = .ok (.iconst 5, 1) := by decide +kernel
theorem d_X12_order_129 : decode cX12_order 129 = .ok (.aload_n 0, 1) := by decide +kernel
theorem d_X12_order_130 : decode cX12_order 130 = .ok (.getfield 77, 3) := by decide +kernel
theorem d_X12_order_133 : decode cX12_order 133 = .ok (.iload_n 3, 1) := by decide +kernel
theorem d_X12_order_134 : decode cX12_order 134 = .ok (.iaload, 1) := by decide +kernel
theorem d_X12_order_135 : decode cX12_order 135 = .ok (.imul, 1) := by decide +kernel
theorem d_X12_order_136 : decode cX12_order 136 = .ok (.iload 6, 2) := by decide +kernel
theorem d_X12_order_138 : decode cX12_order 138 = .ok (.iadd, 1) := by decide +kernel
theorem d_X12_order_139 : decode cX12_order 139 = .ok (.iaload, 1) := by decide +kernel
theorem d_X12_order_140 : decode cX12_order 140 = .ok (.if_icmp .ge 7, 3) := by decide +kernel
theorem d_X12_order_143 : decode cX12_order 143 = .ok (.iconst 1, 1) := by decide +kernel
theorem d_X12_order_144 : decode cX12_order 144 = .ok (.goto 4, 3) := by decide +kernel
theorem d_X12_order_147 : decode cX12_order 147 = .ok (.iconst 0, 1) := by decide +kernel
theorem d_X12_order_148 : decode cX12_order 148 = .ok (.istore 9, 2) := by decide +kernel
theorem d_X12_order_150 : decode cX12_order 150 = .ok (.iload 9, 2) := by decide +kernel
theorem d_X12_order_152 : decode cX12_order 152 = .ok (.ifCond .eq 38, 3) := by decide +kernel
theorem d_X12_order_155 : decode cX12_order 155 = .ok (.aload_n 0, 1) := by decide +kernel
theorem d_X12_order_156 : decode cX12_order 156 = .ok (.getfield 45, 3) := by decide +kernel
theorem d_X12_order_159 : decode cX12_order 159 = .ok (.iload 8, 2) := by decide +kernel
theorem d_X12_order_161 : decode cX12_order 161 = .ok (.iaload, 1) := by decide +kernel
theorem d_X12_order_162 : decode cX12_order 162 = .ok (.aload_n 0, 1) := by decide +kernel
theorem d_X12_order_163 : decode cX12_order 163 = .ok (.getfield 45, 3) := by decide +kernel
theorem d_X12_order_166 : decode cX12_order 166 = .ok (.iload 7, 2) := by decide +kernel
theorem d_X12_order_168 : decode cX12_order 168 = .ok (.iaload, 1) := by decide +kernel
theorem d_X12_order_169 : decode cX12_order 169 = .ok (.if_icmp .gt 21, 3) := by decide +kernel
theorem d_X12_order_172 : decode cX12_order 172 = .ok (.aload_n 0, 1) := by decide +kernel
theorem d_X12_order_173 : decode cX12_order 173 = .ok (.getfield 45, 3) := by decide +kernel
theorem d_X12_order_176 : decode cX12_order 176 = .ok (.iload 8, 2) := by decide +kernel
theorem d_X12_order_178 : decode cX12_order 178 = .ok (.aload_n 0, 1) := by decide +kernel
theorem d_X12_order_179 : decode cX12_order 179 = .ok (.getfield 45, 3) := by decide +kernel
theorem d_X12_order_182 : decode cX12_order 182 = .ok (.iload 7, 2) := by decide +kernel
theorem d_X12_order_184 : decode cX12_order 184 = .ok (.iaload, 1) := by decide +kernel
theorem d_X12_order_185 : decode cX12_order 185 = .ok (.iconst 1, 1) := by decide +kernel
theorem d_X12_order_186 : decode cX12_order 186 = .ok (.iadd, 1) := by decide +kernel
theorem d_X12_order_187 : decode cX12_order 187 = .ok (.iastore, 1) := by decide +kernel
theorem d_X12_order_188 : decode cX12_order 188 = .ok (.iconst 1, 1) := by decide +kernel
theorem d_X12_order_189 : decode cX12_order 189 = .ok (.istore_n 1, 1) := by decide +kernel
theorem d_X12_order_190 : decode cX12_order 190 = .ok (.iinc 4 1, 3) := by decide +kernel
theorem d_X12_order_193 : decode cX12_order 193 = .ok (.goto (-139), 3) := by decide +kernel
theorem d_X12_order_196 : decode cX12_order 196 = .ok (.iinc 3 1, 3) := by decide +kernel
theorem d_X12_order_199 : decode cX12_order 199 = .ok (.goto (-156), 3) := by decide +kernel
theorem d_X12_order_202 : decode cX12_order 202 = .ok (.iinc 2 1, 3) := by decide +kernel
theorem d_X12_order_205 : decode cX12_order 205 = .ok (.goto (-178), 3) := by decide +kernel
theorem d_X12_order_208 : decode cX12_order 208 = .ok (.iload_n 1, 1) := by decide +kernel
theorem d_X12_order_209 : decode cX12_order 209 = .ok (.ifCond .ne 7, 3) := by decide +kernel
theorem d_X12_order_212 : decode cX12_order 212 = .ok (.iconst 1, 1) := by decide +kernel
theorem d_X12_order_213 : decode cX12_order 213 = .ok (.goto 4, 3) := by decide +kernel
theorem d_X12_order_216 : decode cX12_order 216 = .ok (.iconst 0, 1) := by decide +kernel
theorem d_X12_order_217 : decode cX12_order 217 = .ok (.ireturn, 1) := by decide +kernel
def f_X12_order_190 (F : Nat) (kb27 : Int32 → Int32 → sm_M → Option (Int32 × sm_M)) (kb43 : Int32 → Int32 → Int32 → sm_M → Option (Int32 × sm_M)) (kb54 : Int32 → Int32 → Int32 → Int32 → sm_M → Option (Int32 × sm_M)) (x1 : Int32) (x2 : Int32) (x3 : Int32) (x4 : Int32) (M : sm_M) : Option (Int32 × sm_M) := kb54 x1 x2 x3 (x4 + 1) M
set_option maxRecDepth 100000 in
set_option maxHeartbeats 4000000 in
theorem j_X12_order_190 {sk : List sm_Sh} (hx : sm_ext skM sk) (F : Nat) (kb27 : Int32 → Int32 → sm_M → Option (Int32 × sm_M)) (kb43 : Int32 → Int32 → Int32 → sm_M → Option (Int32 × sm_M)) (kb54 : Int32 → Int32 → Int32 → Int32 → sm_M → Option (Int32 × sm_M)) (hkb27 : ∀ (x1 : Int32) (x2 : Int32) (M : sm_M) (r : Int32 × sm_M), kb27 x1 x2 M = some r → sm_J (md_X12_order, 0, sk, .inl (some (.int r.1)), r.2) 27 [some (.ref 80), some (.int x1), some (.int x2), none, none, none, none, none, none, none] [] M) (hkb43 : ∀ (x1 : Int32) (x2 : Int32) (x3 : Int32) (M : sm_M) (r : Int32 × sm_M), kb43 x1 x2 x3 M = some r → sm_J (md_X12_order, 0, sk, .inl (some (.int r.1)), r.2) 43 [some (.ref 80), some (.int x1), some (.int x2), some (.int x3), none, none, none, none, none, none] [] M) (hkb54 : ∀ (x1 : Int32) (x2 : Int32) (x3 : Int32) (x4 : Int32) (M : sm_M) (r : Int32 × sm_M), kb54 x1 x2 x3 x4 M = some r → sm_J (md_X12_order, 0, sk, .inl (some (.int r.1)), r.2) 54 [some (.ref 80), some (.int x1), some (.int x2), some (.int x3), some (.int x4), none, none, none, none, none] [] M) : ∀ (x1 : Int32) (x2 : Int32) (x3 : Int32) (x4 : Int32) (M : sm_M) (r : Int32 × sm_M), f_X12_order_190 F kb27 kb43 kb54 x1 x2 x3 x4 M = some r → sm_J (md_X12_order, 0, sk, .inl (some (.int r.1)), r.2) 190 [some (.ref 80), some (.int x1), some (.int x2), some (.int x3), some (.int x4), none, none, none, none, none] [] M := by
  intro x1 x2 x3 x4  M r h
  unfold f_X12_order_190 at h
  refine sm_iinc (q := 193) (v := (x4 + 1)) (lt := [some (.ref 80), some (.int x1), some (.int x2), some (.int x3), some (.int (x4 + 1)), none, none, none, none, none]) d_X12_order_190 rfl rfl (ii_1 _) (Nat.le_of_ble_eq_true rfl) rfl rfl ?_
  refine sm_goto (t := 54) d_X12_order_193 rfl ?_
  exact hkb54 x1 x2 x3 (x4 + 1) M _ h
def f_X12_order_148 (F : Nat) (kb27 : Int32 → Int32 → sm_M → Option (Int32 × sm_M)) (kb43 : Int32 → Int32 → Int32 → sm_M → Option (Int32 × sm_M)) (kb54 : Int32 → Int32 → Int32 → Int32 → sm_M → Option (Int32 × sm_M)) (x1 : Int32) (x2 : Int32) (x3 : Int32) (x4 : Int32) (x7 : Int32) (x8 : Int32) (y0 : Int32) (M : sm_M) : Option (Int32 × sm_M) := if y0 = 0 then (f_X12_order_190 F kb27 kb43 kb54 x1 x2 x3 x4 M) else (sm_g (sm_ib x8 240) (sm_g (sm_ib x7 240) (if (M.1 89 x7.toNatClampNeg) < (M.1 89 x8.toNatClampNeg) then (f_X12_order_190 F kb27 kb43 kb54 x1 x2 x3 x4 M) else (sm_g (sm_ib x7 240) (sm_g (sm_ib x8 240) (f_X12_order_190 F kb27 kb43 kb54 (1 : Int32) x2 x3 x4 ((sm_mi M 89 x8.toNatClampNeg ((M.1 89 x7.toNatClampNeg) + (1 : Int32))))))))))
set_option maxRecDepth 100000 in
set_option maxHeartbeats 4000000 in
theorem j_X12_order_148 {sk : List sm_Sh} (hx : sm_ext skM sk) (F : Nat) (kb27 : Int32 → Int32 → sm_M → Option (Int32 × sm_M)) (kb43 : Int32 → Int32 → Int32 → sm_M → Option (Int32 × sm_M)) (kb54 : Int32 → Int32 → Int32 → Int32 → sm_M → Option (Int32 × sm_M)) (hkb27 : ∀ (x1 : Int32) (x2 : Int32) (M : sm_M) (r : Int32 × sm_M), kb27 x1 x2 M = some r → sm_J (md_X12_order, 0, sk, .inl (some (.int r.1)), r.2) 27 [some (.ref 80), some (.int x1), some (.int x2), none, none, none, none, none, none, none] [] M) (hkb43 : ∀ (x1 : Int32) (x2 : Int32) (x3 : Int32) (M : sm_M) (r : Int32 × sm_M), kb43 x1 x2 x3 M = some r → sm_J (md_X12_order, 0, sk, .inl (some (.int r.1)), r.2) 43 [some (.ref 80), some (.int x1), some (.int x2), some (.int x3), none, none, none, none, none, none] [] M) (hkb54 : ∀ (x1 : Int32) (x2 : Int32) (x3 : Int32) (x4 : Int32) (M : sm_M) (r : Int32 × sm_M), kb54 x1 x2 x3 x4 M = some r → sm_J (md_X12_order, 0, sk, .inl (some (.int r.1)), r.2) 54 [some (.ref 80), some (.int x1), some (.int x2), some (.int x3), some (.int x4), none, none, none, none, none] [] M) : ∀ (x1 : Int32) (x2 : Int32) (x3 : Int32) (x4 : Int32) (x7 : Int32) (x8 : Int32) (y0 : Int32) (M : sm_M) (r : Int32 × sm_M), f_X12_order_148 F kb27 kb43 kb54 x1 x2 x3 x4 x7 x8 y0 M = some r → sm_J (md_X12_order, 0, sk, .inl (some (.int r.1)), r.2) 148 [some (.ref 80), some (.int x1), some (.int x2), some (.int x3), some (.int x4), none, none, some (.int x7), some (.int x8), none] [.int y0] M := by
  intro x1 x2 x3 x4 x7 x8 y0  M r h
  unfold f_X12_order_148 at h
  refine sm_istore (q := 150) (lt := [some (.ref 80), some (.int x1), some (.int x2), some (.int x3), some (.int x4), none, none, some (.int x7), some (.int x8), some (.int y0)]) d_X12_order_148 rfl (Nat.le_of_ble_eq_true rfl) rfl rfl ?_
  refine sm_iload (q := 152) d_X12_order_150 rfl rfl ?_
  refine sm_if_eq (q := 155) (t := 190) d_X12_order_152 rfl rfl (fun c1 => ?_) (fun c1 => ?_)
  · replace h := sm_it c1 h
    refine sm_fg [7, 8, 9] ?_
    exact j_X12_order_190 hx F kb27 kb43 kb54 hkb27 hkb43 hkb54 x1 x2 x3 x4 M _ h
  · replace h := sm_if c1 h
    refine sm_aload_n (q := 156) d_X12_order_155 rfl rfl ?_
    refine sm_getr (q := 159) d_X12_order_156 rfl fl_X12_45 (hx sx_80) rfl ?_
    refine sm_iload (q := 161) d_X12_order_159 rfl rfl ?_
    obtain ⟨g2, h⟩ := sm_gt h
    refine sm_iaload (q := 162) d_X12_order_161 rfl (hx sx_89) (sm_ib_of g2) ?_
    refine sm_aload_n (q := 163) d_X12_order_162 rfl rfl ?_
    refine sm_getr (q := 166) d_X12_order_163 rfl fl_X12_45 (hx sx_80) rfl ?_
    refine sm_iload (q := 168) d_X12_order_166 rfl rfl ?_
    obtain ⟨g3, h⟩ := sm_gt h
    refine sm_iaload (q := 169) d_X12_order_168 rfl (hx sx_89) (sm_ib_of g3) ?_
    refine sm_icmp_gt (q := 172) (t := 190) d_X12_order_169 rfl rfl (fun c4 => ?_) (fun c4 => ?_)
    · replace h := sm_it c4 h
      refine sm_fg [7, 8, 9] ?_
      exact j_X12_order_190 hx F kb27 kb43 kb54 hkb27 hkb43 hkb54 x1 x2 x3 x4 M _ h
    · replace h := sm_if c4 h
      refine sm_aload_n (q := 173) d_X12_order_172 rfl rfl ?_
      refine sm_getr (q := 176) d_X12_order_173 rfl fl_X12_45 (hx sx_80) rfl ?_
      refine sm_iload (q := 178) d_X12_order_176 rfl rfl ?_
      refine sm_aload_n (q := 179) d_X12_order_178 rfl rfl ?_
      refine sm_getr (q := 182) d_X12_order_179 rfl fl_X12_45 (hx sx_80) rfl ?_
      refine sm_iload (q := 184) d_X12_order_182 rfl rfl ?_
      obtain ⟨g5, h⟩ := sm_gt h
      refine sm_iaload (q := 185) d_X12_order_184 rfl (hx sx_89) (sm_ib_of g5) ?_
      refine sm_iconst (q := 186) d_X12_order_185 rfl ci_1 ?_
      refine sm_iadd (q := 187) d_X12_order_186 rfl ?_
      obtain ⟨g6, h⟩ := sm_gt h
      refine sm_iastore (q := 188) d_X12_order_187 rfl (hx sx_89) (sm_ib_of g6) ?_
      refine sm_iconst (q := 189) d_X12_order_188 rfl ci_1 ?_
      refine sm_istore_n (q := 190) (lt := [some (.ref 80), some (.int (1 : Int32)), some (.int x2), some (.int x3), some (.int x4), none, none, some (.int x7), some (.int x8), some (.int y0)]) d_X12_order_189 rfl (Nat.le_of_ble_eq_true rfl) rfl rfl ?_
      refine sm_fg [7, 8, 9] ?_
      exact j_X12_order_190 hx F kb27 kb43 kb54 hkb27 hkb43 hkb54 (1 : Int32) x2 x3 x4 ((sm_mi M 89 x8.toNatClampNeg ((M.1 89 x7.toNatClampNeg) + (1 : Int32)))) _ h
def f_X12_order_54b (F : Nat) (kb27 : Int32 → Int32 → sm_M → Option (Int32 × sm_M)) (kb43 : Int32 → Int32 → Int32 → sm_M → Option (Int32 × sm_M)) (kb54 : Int32 → Int32 → Int32 → Int32 → sm_M → Option (Int32 × sm_M)) (x1 : Int32) (x2 : Int32) (x3 : Int32) (x4 : Int32) (M : sm_M) : Option (Int32 × sm_M) := if ((M.1 80 2) * (M.1 80 2)) ≤ x4 then (kb43 x1 x2 (x3 + 1) M) else (sm_g (sm_nz (M.1 80 2)) (sm_g (sm_nz (M.1 80 2)) (sm_g (sm_nz (M.1 80 5)) (sm_g (sm_nz (M.1 80 5)) (sm_g (sm_ib x3 200) (sm_g (sm_ib (((5 : Int32) * (M.1 99 x3.toNatClampNeg)) + (x4 / (M.1 80 2))) 1000) (sm_g (sm_ib x3 200) (sm_g (sm_ib (((5 : Int32) * (M.1 99 x3.toNatClampNeg)) + (x4 - x4 / (M.1 80 2) * (M.1 80 2))) 1000) (if (M.1 81 (((5 : Int32) * (M.1 99 x3.toNatClampNeg)) + (x4 - x4 / (M.1 80 2) * (M.1 80 2))).toNatClampNeg) ≤ (M.1 81 (((5 : Int32) * (M.1 99 x3.toNatClampNeg)) + (x4 / (M.1 80 2))).toNatClampNeg) then (f_X12_order_148 F kb27 kb43 kb54 x1 x2 x3 x4 ((x3 + (x4 / (M.1 80 2))) - (x3 + (x4 / (M.1 80 2))) / (M.1 80 5) * (M.1 80 5)) ((x3 + (x4 - x4 / (M.1 80 2) * (M.1 80 2))) - (x3 + (x4 - x4 / (M.1 80 2) * (M.1 80 2))) / (M.1 80 5) * (M.1 80 5)) (0 : Int32) M) else (f_X12_order_148 F kb27 kb43 kb54 x1 x2 x3 x4 ((x3 + (x4 / (M.1 80 2))) - (x3 + (x4 / (M.1 80 2))) / (M.1 80 5) * (M.1 80 5)) ((x3 + (x4 - x4 / (M.1 80 2) * (M.1 80 2))) - (x3 + (x4 - x4 / (M.1 80 2) * (M.1 80 2))) / (M.1 80 5) * (M.1 80 5)) (1 : Int32) M))))))))))
set_option maxRecDepth 100000 in
set_option maxHeartbeats 4000000 in
theorem j_X12_order_54b {sk : List sm_Sh} (hx : sm_ext skM sk) (F : Nat) (kb27 : Int32 → Int32 → sm_M → Option (Int32 × sm_M)) (kb43 : Int32 → Int32 → Int32 → sm_M → Option (Int32 × sm_M)) (kb54 : Int32 → Int32 → Int32 → Int32 → sm_M → Option (Int32 × sm_M)) (hkb27 : ∀ (x1 : Int32) (x2 : Int32) (M : sm_M) (r : Int32 × sm_M), kb27 x1 x2 M = some r → sm_J (md_X12_order, 0, sk, .inl (some (.int r.1)), r.2) 27 [some (.ref 80), some (.int x1), some (.int x2), none, none, none, none, none, none, none] [] M) (hkb43 : ∀ (x1 : Int32) (x2 : Int32) (x3 : Int32) (M : sm_M) (r : Int32 × sm_M), kb43 x1 x2 x3 M = some r → sm_J (md_X12_order, 0, sk, .inl (some (.int r.1)), r.2) 43 [some (.ref 80), some (.int x1), some (.int x2), some (.int x3), none, none, none, none, none, none] [] M) (hkb54 : ∀ (x1 : Int32) (x2 : Int32) (x3 : Int32) (x4 : Int32) (M : sm_M) (r : Int32 × sm_M), kb54 x1 x2 x3 x4 M = some r → sm_J (md_X12_order, 0, sk, .inl (some (.int r.1)), r.2) 54 [some (.ref 80), some (.int x1), some (.int x2), some (.int x3), some (.int x4), none, none, none, none, none] [] M) : ∀ (x1 : Int32) (x2 : Int32) (x3 : Int32) (x4 : Int32) (M : sm_M) (r : Int32 × sm_M), f_X12_order_54b F kb27 kb43 kb54 x1 x2 x3 x4 M = some r → sm_J (md_X12_order, 0, sk, .inl (some (.int r.1)), r.2) 54 [some (.ref 80), some (.int x1), some (.int x2), some (.int x3), some (.int x4), none, none, none, none, none] [] M := by
  intro x1 x2 x3 x4  M r h
  unfold f_X12_order_54b at h
  refine sm_iload (q := 56) d_X12_order_54 rfl rfl ?_
  refine sm_aload_n (q := 57) d_X12_order_56 rfl rfl ?_
  refine sm_geti (q := 60) d_X12_order_57 rfl fl_X12_13 (hx sx_80) rfl ?_
  refine sm_aload_n (q := 61) d_X12_order_60 rfl rfl ?_
  refine sm_geti (q := 64) d_X12_order_61 rfl fl_X12_13 (hx sx_80) rfl ?_
  refine sm_imul (q := 65) d_X12_order_64 rfl ?_
  refine sm_icmp_ge (q := 68) (t := 196) d_X12_order_65 rfl rfl (fun c1 => ?_) (fun c1 => ?_)
  · replace h := sm_it c1 h
    refine sm_iinc (q := 199) (v := (x3 + 1)) (lt := [some (.ref 80), some (.int x1), some (.int x2), some (.int (x3 + 1)), some (.int x4), none, none, none, none, none]) d_X12_order_196 rfl rfl (ii_1 _) (Nat.le_of_ble_eq_true rfl) rfl rfl ?_
    refine sm_goto (t := 43) d_X12_order_199 rfl ?_
    refine sm_fg [4] ?_
    exact hkb43 x1 x2 (x3 + 1) M _ h
  · replace h := sm_if c1 h
    refine sm_iload (q := 70) d_X12_order_68 rfl rfl ?_
    refine sm_aload_n (q := 71) d_X12_order_70 rfl rfl ?_
    refine sm_geti (q := 74) d_X12_order_71 rfl fl_X12_13 (hx sx_80) rfl ?_
    obtain ⟨g2, h⟩ := sm_gt h
    refine sm_idiv (q := 75) d_X12_order_74 rfl (sm_nz_of g2) ?_
    refine sm_istore (q := 77) (lt := [some (.ref 80), some (.int x1), some (.int x2), some (.int x3), some (.int x4), some (.int (x4 / (M.1 80 2))), none, none, none, none]) d_X12_order_75 rfl (Nat.le_of_ble_eq_true rfl) rfl rfl ?_
    refine sm_iload (q := 79) d_X12_order_77 rfl rfl ?_
    refine sm_aload_n (q := 80) d_X12_order_79 rfl rfl ?_
    refine sm_geti (q := 83) d_X12_order_80 rfl fl_X12_13 (hx sx_80) rfl ?_
    obtain ⟨g3, h⟩ := sm_gt h
    refine sm_irem (q := 84) d_X12_order_83 rfl (sm_nz_of g3) ?_
    refine sm_istore (q := 86) (lt := [some (.ref 80), some (.int x1), some (.int x2), some (.int x3), some (.int x4), some (.int (x4 / (M.1 80 2))), some (.int (x4 - x4 / (M.1 80 2) * (M.1 80 2))), none, none, none]) d_X12_order_84 rfl (Nat.le_of_ble_eq_true rfl) rfl rfl ?_
    refine sm_iload_n (q := 87) d_X12_order_86 rfl rfl ?_
    refine sm_iload (q := 89) d_X12_order_87 rfl rfl ?_
    refine sm_iadd (q := 90) d_X12_order_89 rfl ?_
    refine sm_aload_n (q := 91) d_X12_order_90 rfl rfl ?_
    refine sm_geti (q := 94) d_X12_order_91 rfl fl_X12_97 (hx sx_80) rfl ?_
    obtain ⟨g4, h⟩ := sm_gt h
    refine sm_irem (q := 95) d_X12_order_94 rfl (sm_nz_of g4) ?_
    refine sm_istore (q := 97) (lt := [some (.ref 80), some (.int x1), some (.int x2), some (.int x3), some (.int x4), some (.int (x4 / (M.1 80 2))), some (.int (x4 - x4 / (M.1 80 2) * (M.1 80 2))), some (.int ((x3 + (x4 / (M.1 80 2))) - (x3 + (x4 / (M.1 80 2))) / (M.1 80 5) * (M.1 80 5))), none, none]) d_X12_order_95 rfl (Nat.le_of_ble_eq_true rfl) rfl rfl ?_
    refine sm_iload_n (q := 98) d_X12_order_97 rfl rfl ?_
    refine sm_iload (q := 100) d_X12_order_98 rfl rfl ?_
    refine sm_iadd (q := 101) d_X12_order_100 rfl ?_
    refine sm_aload_n (q := 102) d_X12_order_101 rfl rfl ?_
    refine sm_geti (q := 105) d_X12_order_102 rfl fl_X12_97 (hx sx_80) rfl ?_
    obtain ⟨g5, h⟩ := sm_gt h
    refine sm_irem (q := 106) d_X12_order_105 rfl (sm_nz_of g5) ?_
    refine sm_istore (q := 108) (lt := [some (.ref 80), some (.int x1), some (.int x2), some (.int x3), some (.int x4), some (.int (x4 / (M.1 80 2))), some (.int (x4 - x4 / (M.1 80 2) * (M.1 80 2))), some (.int ((x3 + (x4 / (M.1 80 2))) - (x3 + (x4 / (M.1 80 2))) / (M.1 80 5) * (M.1 80 5))), some (.int ((x3 + (x4 - x4 / (M.1 80 2) * (M.1 80 2))) - (x3 + (x4 - x4 / (M.1 80 2) * (M.1 80 2))) / (M.1 80 5) * (M.1 80 5))), none]) d_X12_order_106 rfl (Nat.le_of_ble_eq_true rfl) rfl rfl ?_
    refine sm_aload_n (q := 109) d_X12_order_108 rfl rfl ?_
    refine sm_getr (q := 112) d_X12_order_109 rfl fl_X12_19 (hx sx_80) rfl ?_
    refine sm_iconst (q := 113) d_X12_order_112 rfl ci_5 ?_
    refine sm_aload_n (q := 114) d_X12_order_113 rfl rfl ?_
    refine sm_getr (q := 117) d_X12_order_114 rfl fl_X12_77 (hx sx_80) rfl ?_
    refine sm_iload_n (q := 118) d_X12_order_117 rfl rfl ?_
    obtain ⟨g6, h⟩ := sm_gt h
    refine sm_iaload (q := 119) d_X12_order_118 rfl (hx sx_99) (sm_ib_of g6) ?_
    refine sm_imul (q := 120) d_X12_order_119 rfl ?_
    refine sm_iload (q := 122) d_X12_order_120 rfl rfl ?_
    refine sm_iadd (q := 123) d_X12_order_122 rfl ?_
    obtain ⟨g7, h⟩ := sm_gt h
    refine sm_iaload (q := 124) d_X12_order_123 rfl (hx sx_81) (sm_ib_of g7) ?_
    refine sm_aload_n (q := 125) d_X12_order_124 rfl rfl ?_
    refine sm_getr (q := 128) d_X12_order_125 rfl fl_X12_19 (hx sx_80) rfl ?_
    refine sm_iconst (q := 129) d_X12_order_128 rfl ci_5 ?_
    refine sm_aload_n (q := 130) d_X12_order_129 rfl rfl ?_
    refine sm_getr (q := 133) d_X12_order_130 rfl fl_X12_77 (hx sx_80) rfl ?_
    refine sm_iload_n (q := 134) d_X12_order_133 rfl rfl ?_
    obtain ⟨g8, h⟩ := sm_gt h
    refine sm_iaload (q := 135) d_X12_order_134 rfl (hx sx_99) (sm_ib_of g8) ?_
    refine sm_imul (q := 136) d_X12_order_135 rfl ?_
    refine sm_iload (q := 138) d_X12_order_136 rfl rfl ?_
    refine sm_iadd (q := 139) d_X12_order_138 rfl ?_
    obtain ⟨g9, h⟩ := sm_gt h
    refine sm_iaload (q := 140) d_X12_order_139 rfl (hx sx_81) (sm_ib_of g9) ?_
    refine sm_icmp_ge (q := 143) (t := 147) d_X12_order_140 rfl rfl (fun c10 => ?_) (fun c10 => ?_)
    · replace h := sm_it c10 h
      refine sm_iconst (q := 148) d_X12_order_147 rfl ci_0 ?_
      refine sm_fg [5, 6] ?_
      exact j_X12_order_148 hx F kb27 kb43 kb54 hkb27 hkb43 hkb54 x1 x2 x3 x4 ((x3 + (x4 / (M.1 80 2))) - (x3 + (x4 / (M.1 80 2))) / (M.1 80 5) * (M.1 80 5)) ((x3 + (x4 - x4 / (M.1 80 2) * (M.1 80 2))) - (x3 + (x4 - x4 / (M.1 80 2) * (M.1 80 2))) / (M.1 80 5) * (M.1 80 5)) (0 : Int32) M _ h
    · replace h := sm_if c10 h
      refine sm_iconst (q := 144) d_X12_order_143 rfl ci_1 ?_
      refine sm_goto (t := 148) d_X12_order_144 rfl ?_
      refine sm_fg [5, 6] ?_
      exact j_X12_order_148 hx F kb27 kb43 kb54 hkb27 hkb43 hkb54 x1 x2 x3 x4 ((x3 + (x4 / (M.1 80 2))) - (x3 + (x4 / (M.1 80 2))) / (M.1 80 5) * (M.1 80 5)) ((x3 + (x4 - x4 / (M.1 80 2) * (M.1 80 2))) - (x3 + (x4 - x4 / (M.1 80 2) * (M.1 80 2))) / (M.1 80 5) * (M.1 80 5)) (1 : Int32) M _ h
def f_X12_order_54 (F : Nat) (kb27 : Int32 → Int32 → sm_M → Option (Int32 × sm_M)) (kb43 : Int32 → Int32 → Int32 → sm_M → Option (Int32 × sm_M)) (n : Nat) : Int32 → Int32 → Int32 → Int32 → sm_M → Option (Int32 × sm_M) := match n with
 | 0 => fun _ _ _ _ _ => none
 | n + 1 => f_X12_order_54b F kb27 kb43 (f_X12_order_54 F kb27 kb43 n)
theorem j_X12_order_54 {sk : List sm_Sh} (hx : sm_ext skM sk) (F : Nat) (kb27 : Int32 → Int32 → sm_M → Option (Int32 × sm_M)) (kb43 : Int32 → Int32 → Int32 → sm_M → Option (Int32 × sm_M)) (hkb27 : ∀ (x1 : Int32) (x2 : Int32) (M : sm_M) (r : Int32 × sm_M), kb27 x1 x2 M = some r → sm_J (md_X12_order, 0, sk, .inl (some (.int r.1)), r.2) 27 [some (.ref 80), some (.int x1), some (.int x2), none, none, none, none, none, none, none] [] M) (hkb43 : ∀ (x1 : Int32) (x2 : Int32) (x3 : Int32) (M : sm_M) (r : Int32 × sm_M), kb43 x1 x2 x3 M = some r → sm_J (md_X12_order, 0, sk, .inl (some (.int r.1)), r.2) 43 [some (.ref 80), some (.int x1), some (.int x2), some (.int x3), none, none, none, none, none, none] [] M) : ∀ (n : Nat) (x1 : Int32) (x2 : Int32) (x3 : Int32) (x4 : Int32) (M : sm_M) (r : Int32 × sm_M), f_X12_order_54 F kb27 kb43 n x1 x2 x3 x4 M = some r → sm_J (md_X12_order, 0, sk, .inl (some (.int r.1)), r.2) 54 [some (.ref 80), some (.int x1), some (.int x2), some (.int x3), some (.int x4), none, none, none, none, none] [] M := by
  intro n
  induction n with
  | zero => intro x1 x2 x3 x4  M r h; exact nomatch (show (none : Option (Int32 × sm_M)) = some r from h)
  | succ n ih => exact j_X12_order_54b hx F kb27 kb43 (f_X12_order_54 F kb27 kb43 n) hkb27 hkb43 ih
def f_X12_order_43b (F : Nat) (kb27 : Int32 → Int32 → sm_M → Option (Int32 × sm_M)) (kb43 : Int32 → Int32 → Int32 → sm_M → Option (Int32 × sm_M)) (x1 : Int32) (x2 : Int32) (x3 : Int32) (M : sm_M) : Option (Int32 × sm_M) := if (M.1 80 5) ≤ x3 then (kb27 x1 (x2 + 1) M) else (f_X12_order_54 F kb27 kb43 F x1 x2 x3 (0 : Int32) M)
set_option maxRecDepth 100000 in
set_option maxHeartbeats 4000000 in
theorem j_X12_order_43b {sk : List sm_Sh} (hx : sm_ext skM sk) (F : Nat) (kb27 : Int32 → Int32 → sm_M → Option (Int32 × sm_M)) (kb43 : Int32 → Int32 → Int32 → sm_M → Option (Int32 × sm_M)) (hkb27 : ∀ (x1 : Int32) (x2 : Int32) (M : sm_M) (r : Int32 × sm_M), kb27 x1 x2 M = some r → sm_J (md_X12_order, 0, sk, .inl (some (.int r.1)), r.2) 27 [some (.ref 80), some (.int x1), some (.int x2), none, none, none, none, none, none, none] [] M) (hkb43 : ∀ (x1 : Int32) (x2 : Int32) (x3 : Int32) (M : sm_M) (r : Int32 × sm_M), kb43 x1 x2 x3 M = some r → sm_J (md_X12_order, 0, sk, .inl (some (.int r.1)), r.2) 43 [some (.ref 80), some (.int x1), some (.int x2), some (.int x3), none, none, none, none, none, none] [] M) : ∀ (x1 : Int32) (x2 : Int32) (x3 : Int32) (M : sm_M) (r : Int32 × sm_M), f_X12_order_43b F kb27 kb43 x1 x2 x3 M = some r → sm_J (md_X12_order, 0, sk, .inl (some (.int r.1)), r.2) 43 [some (.ref 80), some (.int x1), some (.int x2), some (.int x3), none, none, none, none, none, none] [] M := by
  intro x1 x2 x3  M r h
  unfold f_X12_order_43b at h
  refine sm_iload_n (q := 44) d_X12_order_43 rfl rfl ?_
  refine sm_aload_n (q := 45) d_X12_order_44 rfl rfl ?_
  refine sm_geti (q := 48) d_X12_order_45 rfl fl_X12_97 (hx sx_80) rfl ?_
  refine sm_icmp_ge (q := 51) (t := 202) d_X12_order_48 rfl rfl (fun c1 => ?_) (fun c1 => ?_)
  · replace h := sm_it c1 h
    refine sm_iinc (q := 205) (v := (x2 + 1)) (lt := [some (.ref 80), some (.int x1), some (.int (x2 + 1)), some (.int x3), none, none, none, none, none, none]) d_X12_order_202 rfl rfl (ii_1 _) (Nat.le_of_ble_eq_true rfl) rfl rfl ?_
    refine sm_goto (t := 27) d_X12_order_205 rfl ?_
    refine sm_fg [3] ?_
    exact hkb27 x1 (x2 + 1) M _ h
  · replace h := sm_if c1 h
    refine sm_iconst (q := 52) d_X12_order_51 rfl ci_0 ?_
    refine sm_istore (q := 54) (lt := [some (.ref 80), some (.int x1), some (.int x2), some (.int x3), some (.int (0 : Int32)), none, none, none, none, none]) d_X12_order_52 rfl (Nat.le_of_ble_eq_true rfl) rfl rfl ?_
    exact j_X12_order_54 hx F kb27 kb43 hkb27 hkb43 F x1 x2 x3 (0 : Int32) M _ h
def f_X12_order_43 (F : Nat) (kb27 : Int32 → Int32 → sm_M → Option (Int32 × sm_M)) (n : Nat) : Int32 → Int32 → Int32 → sm_M → Option (Int32 × sm_M) := match n with
 | 0 => fun _ _ _ _ => none
 | n + 1 => f_X12_order_43b F kb27 (f_X12_order_43 F kb27 n)
theorem j_X12_order_43 {sk : List sm_Sh} (hx : sm_ext skM sk) (F : Nat) (kb27 : Int32 → Int32 → sm_M → Option (Int32 × sm_M)) (hkb27 : ∀ (x1 : Int32) (x2 : Int32) (M : sm_M) (r : Int32 × sm_M), kb27 x1 x2 M = some r → sm_J (md_X12_order, 0, sk, .inl (some (.int r.1)), r.2) 27 [some (.ref 80), some (.int x1), some (.int x2), none, none, none, none, none, none, none] [] M) : ∀ (n : Nat) (x1 : Int32) (x2 : Int32) (x3 : Int32) (M : sm_M) (r : Int32 × sm_M), f_X12_order_43 F kb27 n x1 x2 x3 M = some r → sm_J (md_X12_order, 0, sk, .inl (some (.int r.1)), r.2) 43 [some (.ref 80), some (.int x1), some (.int x2), some (.int x3), none, none, none, none, none, none] [] M := by
  intro n
  induction n with
  | zero => intro x1 x2 x3  M r h; exact nomatch (show (none : Option (Int32 × sm_M)) = some r from h)
  | succ n ih => exact j_X12_order_43b hx F kb27 (f_X12_order_43 F kb27 n) hkb27 ih
def f_X12_order_217 (F : Nat) (y0 : Int32) (M : sm_M) : Option (Int32 × sm_M) := sm_g (sm_nar .boolean y0) (some (y0, M))
set_option maxRecDepth 100000 in
set_option maxHeartbeats 4000000 in
theorem j_X12_order_217 {sk : List sm_Sh} (hx : sm_ext skM sk) (F : Nat) : ∀ (y0 : Int32) (M : sm_M) (r : Int32 × sm_M), f_X12_order_217 F y0 M = some r → sm_J (md_X12_order, 0, sk, .inl (some (.int r.1)), r.2) 217 [none, none, none, none, none, none, none, none, none, none] [.int y0] M := by
  intro y0  M r h
  unfold f_X12_order_217 at h
  obtain ⟨g1, h⟩ := sm_gt h
  obtain rfl := Option.some.inj h
  exact sm_iret d_X12_order_217 rfl (sm_nar_of g1).1 rfl rfl
def f_X12_order_208 (F : Nat) (x1 : Int32) (M : sm_M) : Option (Int32 × sm_M) := if x1 = 0 then (f_X12_order_217 F (1 : Int32) M) else (f_X12_order_217 F (0 : Int32) M)
set_option maxRecDepth 100000 in
set_option maxHeartbeats 4000000 in
theorem j_X12_order_208 {sk : List sm_Sh} (hx : sm_ext skM sk) (F : Nat) : ∀ (x1 : Int32) (M : sm_M) (r : Int32 × sm_M), f_X12_order_208 F x1 M = some r → sm_J (md_X12_order, 0, sk, .inl (some (.int r.1)), r.2) 208 [none, some (.int x1), none, none, none, none, none, none, none, none] [] M := by
  intro x1  M r h
  unfold f_X12_order_208 at h
  refine sm_iload_n (q := 209) d_X12_order_208 rfl rfl ?_
  refine sm_if_ne (q := 212) (t := 216) d_X12_order_209 rfl rfl (fun c1 => ?_) (fun c1 => ?_)
  · replace h := sm_if c1 h
    refine sm_iconst (q := 217) d_X12_order_216 rfl ci_0 ?_
    refine sm_fg [1] ?_
    exact j_X12_order_217 hx F (0 : Int32) M _ h
  · replace h := sm_it c1 h
    refine sm_iconst (q := 213) d_X12_order_212 rfl ci_1 ?_
    refine sm_goto (t := 217) d_X12_order_213 rfl ?_
    refine sm_fg [1] ?_
    exact j_X12_order_217 hx F (1 : Int32) M _ h
def f_X12_order_27b (F : Nat) (kb27 : Int32 → Int32 → sm_M → Option (Int32 × sm_M)) (x1 : Int32) (x2 : Int32) (M : sm_M) : Option (Int32 × sm_M) := if (M.1 80 5) < x2 then (f_X12_order_208 F x1 M) else (if x1 = 0 then (f_X12_order_208 F x1 M) else (f_X12_order_43 F kb27 F (0 : Int32) x2 (0 : Int32) M))
set_option maxRecDepth 100000 in
set_option maxHeartbeats 4000000 in
theorem j_X12_order_27b {sk : List sm_Sh} (hx : sm_ext skM sk) (F : Nat) (kb27 : Int32 → Int32 → sm_M → Option (Int32 × sm_M)) (hkb27 : ∀ (x1 : Int32) (x2 : Int32) (M : sm_M) (r : Int32 × sm_M), kb27 x1 x2 M = some r → sm_J (md_X12_order, 0, sk, .inl (some (.int r.1)), r.2) 27 [some (.ref 80), some (.int x1), some (.int x2), none, none, none, none, none, none, none] [] M) : ∀ (x1 : Int32) (x2 : Int32) (M : sm_M) (r : Int32 × sm_M), f_X12_order_27b F kb27 x1 x2 M = some r → sm_J (md_X12_order, 0, sk, .inl (some (.int r.1)), r.2) 27 [some (.ref 80), some (.int x1), some (.int x2), none, none, none, none, none, none, none] [] M := by
  intro x1 x2  M r h
  unfold f_X12_order_27b at h
  refine sm_iload_n (q := 28) d_X12_order_27 rfl rfl ?_
  refine sm_aload_n (q := 29) d_X12_order_28 rfl rfl ?_
  refine sm_geti (q := 32) d_X12_order_29 rfl fl_X12_97 (hx sx_80) rfl ?_
  refine sm_icmp_gt (q := 35) (t := 208) d_X12_order_32 rfl rfl (fun c1 => ?_) (fun c1 => ?_)
  · replace h := sm_it c1 h
    refine sm_fg [0, 2] ?_
    exact j_X12_order_208 hx F x1 M _ h
  · replace h := sm_if c1 h
    refine sm_iload_n (q := 36) d_X12_order_35 rfl rfl ?_
    refine sm_if_eq (q := 39) (t := 208) d_X12_order_36 rfl rfl (fun c2 => ?_) (fun c2 => ?_)
    · replace h := sm_it c2 h
      refine sm_fg [0, 2] ?_
      exact j_X12_order_208 hx F x1 M _ h
    · replace h := sm_if c2 h
      refine sm_iconst (q := 40) d_X12_order_39 rfl ci_0 ?_
      refine sm_istore_n (q := 41) (lt := [some (.ref 80), some (.int (0 : Int32)), some (.int x2), none, none, none, none, none, none, none]) d_X12_order_40 rfl (Nat.le_of_ble_eq_true rfl) rfl rfl ?_
      refine sm_iconst (q := 42) d_X12_order_41 rfl ci_0 ?_
      refine sm_istore_n (q := 43) (lt := [some (.ref 80), some (.int (0 : Int32)), some (.int x2), some (.int (0 : Int32)), none, none, none, none, none, none]) d_X12_order_42 rfl (Nat.le_of_ble_eq_true rfl) rfl rfl ?_
      exact j_X12_order_43 hx F kb27 hkb27 F (0 : Int32) x2 (0 : Int32) M _ h
def f_X12_order_27 (F : Nat) (n : Nat) : Int32 → Int32 → sm_M → Option (Int32 × sm_M) := match n with
 | 0 => fun _ _ _ => none
 | n + 1 => f_X12_order_27b F (f_X12_order_27 F n)
theorem j_X12_order_27 {sk : List sm_Sh} (hx : sm_ext skM sk) (F : Nat) : ∀ (n : Nat) (x1 : Int32) (x2 : Int32) (M : sm_M) (r : Int32 × sm_M), f_X12_order_27 F n x1 x2 M = some r → sm_J (md_X12_order, 0, sk, .inl (some (.int r.1)), r.2) 27 [some (.ref 80), some (.int x1), some (.int x2), none, none, none, none, none, none, none] [] M := by
  intro n
  induction n with
  | zero => intro x1 x2  M r h; exact nomatch (show (none : Option (Int32 × sm_M)) = some r from h)
  | succ n ih => exact j_X12_order_27b hx F (f_X12_order_27 F n) ih
def f_X12_order_2b (F : Nat) (kb2 : Int32 → sm_M → Option (Int32 × sm_M)) (x1 : Int32) (M : sm_M) : Option (Int32 × sm_M) := if (M.1 80 5) ≤ x1 then (f_X12_order_27 F F (1 : Int32) (0 : Int32) M) else (sm_g (sm_ib x1 240) (kb2 (x1 + 1) ((sm_mi M 89 x1.toNatClampNeg (0 : Int32)))))
set_option maxRecDepth 100000 in
set_option maxHeartbeats 4000000 in
theorem j_X12_order_2b {sk : List sm_Sh} (hx : sm_ext skM sk) (F : Nat) (kb2 : Int32 → sm_M → Option (Int32 × sm_M)) (hkb2 : ∀ (x1 : Int32) (M : sm_M) (r : Int32 × sm_M), kb2 x1 M = some r → sm_J (md_X12_order, 0, sk, .inl (some (.int r.1)), r.2) 2 [some (.ref 80), some (.int x1), none, none, none, none, none, none, none, none] [] M) : ∀ (x1 : Int32) (M : sm_M) (r : Int32 × sm_M), f_X12_order_2b F kb2 x1 M = some r → sm_J (md_X12_order, 0, sk, .inl (some (.int r.1)), r.2) 2 [some (.ref 80), some (.int x1), none, none, none, none, none, none, none, none] [] M := by
  intro x1  M r h
  unfold f_X12_order_2b at h
  refine sm_iload_n (q := 3) d_X12_order_2 rfl rfl ?_
  refine sm_aload_n (q := 4) d_X12_order_3 rfl rfl ?_
  refine sm_geti (q := 7) d_X12_order_4 rfl fl_X12_97 (hx sx_80) rfl ?_
  refine sm_icmp_ge (q := 10) (t := 23) d_X12_order_7 rfl rfl (fun c1 => ?_) (fun c1 => ?_)
  · replace h := sm_it c1 h
    refine sm_iconst (q := 24) d_X12_order_23 rfl ci_1 ?_
    refine sm_istore_n (q := 25) (lt := [some (.ref 80), some (.int (1 : Int32)), none, none, none, none, none, none, none, none]) d_X12_order_24 rfl (Nat.le_of_ble_eq_true rfl) rfl rfl ?_
    refine sm_iconst (q := 26) d_X12_order_25 rfl ci_0 ?_
    refine sm_istore_n (q := 27) (lt := [some (.ref 80), some (.int (1 : Int32)), some (.int (0 : Int32)), none, none, none, none, none, none, none]) d_X12_order_26 rfl (Nat.le_of_ble_eq_true rfl) rfl rfl ?_
    exact j_X12_order_27 hx F F (1 : Int32) (0 : Int32) M _ h
  · replace h := sm_if c1 h
    refine sm_aload_n (q := 11) d_X12_order_10 rfl rfl ?_
    refine sm_getr (q := 14) d_X12_order_11 rfl fl_X12_45 (hx sx_80) rfl ?_
    refine sm_iload_n (q := 15) d_X12_order_14 rfl rfl ?_
    refine sm_iconst (q := 16) d_X12_order_15 rfl ci_0 ?_
    obtain ⟨g2, h⟩ := sm_gt h
    refine sm_iastore (q := 17) d_X12_order_16 rfl (hx sx_89) (sm_ib_of g2) ?_
    refine sm_iinc (q := 20) (v := (x1 + 1)) (lt := [some (.ref 80), some (.int (x1 + 1)), none, none, none, none, none, none, none, none]) d_X12_order_17 rfl rfl (ii_1 _) (Nat.le_of_ble_eq_true rfl) rfl rfl ?_
    refine sm_goto (t := 2) d_X12_order_20 rfl ?_
    exact hkb2 (x1 + 1) ((sm_mi M 89 x1.toNatClampNeg (0 : Int32))) _ h
def f_X12_order_2 (F : Nat) (n : Nat) : Int32 → sm_M → Option (Int32 × sm_M) := match n with
 | 0 => fun _ _ => none
 | n + 1 => f_X12_order_2b F (f_X12_order_2 F n)
theorem j_X12_order_2 {sk : List sm_Sh} (hx : sm_ext skM sk) (F : Nat) : ∀ (n : Nat) (x1 : Int32) (M : sm_M) (r : Int32 × sm_M), f_X12_order_2 F n x1 M = some r → sm_J (md_X12_order, 0, sk, .inl (some (.int r.1)), r.2) 2 [some (.ref 80), some (.int x1), none, none, none, none, none, none, none, none] [] M := by
  intro n
  induction n with
  | zero => intro x1  M r h; exact nomatch (show (none : Option (Int32 × sm_M)) = some r from h)
  | succ n ih => exact j_X12_order_2b hx F (f_X12_order_2 F n) ih
def f_X12_order (F : Nat) (M : sm_M) : Option (Int32 × sm_M) := f_X12_order_2 F F (0 : Int32) M
set_option maxRecDepth 100000 in
set_option maxHeartbeats 4000000 in
theorem j_X12_order {sk : List sm_Sh} (hx : sm_ext skM sk) (F : Nat) : ∀ (M : sm_M) (r : Int32 × sm_M), f_X12_order F M = some r → sm_J (md_X12_order, 0, sk, .inl (some (.int r.1)), r.2) 0 [some (.ref 80), none, none, none, none, none, none, none, none, none] [] M := by
  intro   M r h
  unfold f_X12_order at h
  refine sm_iconst (q := 1) d_X12_order_0 rfl ci_0 ?_
  refine sm_istore_n (q := 2) (lt := [some (.ref 80), some (.int (0 : Int32)), none, none, none, none, none, none, none, none]) d_X12_order_1 rfl (Nat.le_of_ble_eq_true rfl) rfl rfl ?_
  exact j_X12_order_2 hx F F (0 : Int32) M _ h
theorem c_X12_order {sk : List sm_Sh} (hx : sm_ext skM sk) (F : Nat) (M : sm_M) (r : Int32 × sm_M) (h : f_X12_order F M = some r) : sm_Ct yX12_order md_X12_order 0 sk [.ref 80] M (.inl (some (.int r.1))) r.2 := sm_enter 9 pn_X12 rfl (Nat.le_of_ble_eq_true rfl) rfl (j_X12_order hx F M r h)
/-! UniversalCyclesModel.useCircuit()I -/
theorem d_X12_useCircuit_0 : decode cX12_useCircuit 0 = .ok (.aload_n 0, 1) := by decide +kernel
theorem d_X12_useCircuit_1 : decode cX12_useCircuit 1 = .ok (.iconst 0, 1) := by decide +kernel
theorem d_X12_useCircuit_2 : decode cX12_useCircuit 2 = .ok (.putfield 1, 3) := by decide +kernel
theorem d_X12_useCircuit_5 : decode cX12_useCircuit 5 = .ok (.aload_n 0, 1) := by decide +kernel
theorem d_X12_useCircuit_6 : decode cX12_useCircuit 6 = .ok (.getfield 90, 3) := by decide +kernel
theorem d_X12_useCircuit_9 : decode cX12_useCircuit 9 = .ok (.iconst 3, 1) := by decide +kernel
theorem d_X12_useCircuit_10 : decode cX12_useCircuit 10 = .ok (.if_icmp .ne 9, 3) := by decide +kernel
theorem d_X12_useCircuit_13 : decode cX12_useCircuit 13 = .ok (.aload_n 0, 1) := by decide +kernel
theorem d_X12_useCircuit_14 : decode cX12_useCircuit 14 = .ok (.iconst 1, 1) := by decide +kernel
theorem d_X12_useCircuit_15 : decode cX12_useCircuit 15 = .ok (.invokevirtual 122, 3) := by decide +kernel
theorem d_X12_useCircuit_18 : decode cX12_useCircuit 18 = .ok (.ireturn, 1) := by decide +kernel
theorem d_X12_useCircuit_19 : decode cX12_useCircuit 19 = .ok (.aload_n 0, 1) := by decide +kernel
theorem d_X12_useCircuit_20 : decode cX12_useCircuit 20 = .ok (.invokevirtual 217, 3) := by decide +kernel
theorem d_X12_useCircuit_23 : decode cX12_useCircuit 23 = .ok (.ifCond .ne 9, 3) := by decide +kernel
theorem d_X12_useCircuit_26 : decode cX12_useCircuit 26 = .ok (.aload_n 0, 1) := by decide +kernel
theorem d_X12_useCircuit_27 : decode cX12_useCircuit 27 = .ok (.iconst 2, 1) := by decide +kernel
theorem d_X12_useCircuit_28 : decode cX12_useCircuit 28 = .ok (.invokevirtual 122, 3) := by decide +kernel
theorem d_X12_useCircuit_31 : decode cX12_useCircuit 31 = .ok (.ireturn, 1) := by decide +kernel
theorem d_X12_useCircuit_32 : decode cX12_useCircuit 32 = .ok (.aload_n 0, 1) := by decide +kernel
theorem d_X12_useCircuit_33 : decode cX12_useCircuit 33 = .ok (.getfield 90, 3) := by decide +kernel
theorem d_X12_useCircuit_36 : decode cX12_useCircuit 36 = .ok (.iconst 1, 1) := by decide +kernel
theorem d_X12_useCircuit_37 : decode cX12_useCircuit 37 = .ok (.if_icmp .ne 16, 3) := by decide +kernel
theorem d_X12_useCircuit_40 : decode cX12_useCircuit 40 = .ok (.aload_n 0, 1) := by decide +kernel
theorem d_X12_useCircuit_41 : decode cX12_useCircuit 41 = .ok (.invokevirtual 225, 3) := by decide +kernel
theorem d_X12_useCircuit_44 : decode cX12_useCircuit 44 = .ok (.ifCond .ne 9, 3) := by decide +kernel
theorem d_X12_useCircuit_47 : decode cX12_useCircuit 47 = .ok (.aload_n 0, 1) := by decide +kernel
theorem d_X12_useCircuit_48 : decode cX12_useCircuit 48 = .ok (.iconst 2, 1) := by decide +kernel
theorem d_X12_useCircuit_49 : decode cX12_useCircuit 49 = .ok (.invokevirtual 122, 3) := by decide +kernel
theorem d_X12_useCircuit_52 : decode cX12_useCircuit 52 = .ok (.ireturn, 1) := by decide +kernel
theorem d_X12_useCircuit_53 : decode cX12_useCircuit 53 = .ok (.iconst 0, 1) := by decide +kernel
theorem d_X12_useCircuit_54 : decode cX12_useCircuit 54 = .ok (.istore_n 1, 1) := by decide +kernel
theorem d_X12_useCircuit_55 : decode cX12_useCircuit 55 = .ok (.iload_n 1, 1) := by decide +kernel
theorem d_X12_useCircuit_56 : decode cX12_useCircuit 56 = .ok (.aload_n 0, 1) := by decide +kernel
theorem d_X12_useCircuit_57 : decode cX12_useCircuit 57 = .ok (.getfield 97, 3) := by decide +kernel
theorem d_X12_useCircuit_60 : decode cX12_useCircuit 60 = .ok (.if_icmp .ge 64, 3) := by decide +kernel
theorem d_X12_useCircuit_63 : decode cX12_useCircuit 63 = .ok (.aload_n 0, 1) := by decide +kernel
theorem d_X12_useCircuit_64 : decode cX12_useCircuit 64 = .ok (.getfield 45, 3) := by decide +kernel
theorem d_X12_useCircuit_67 : decode cX12_useCircuit 67 = .ok (.iload_n 1, 1) := by decide +kernel
theorem d_X12_useCircuit_68 : decode cX12_useCircuit 68 = .ok (.aload_n 0, 1) := by decide +kernel
theorem d_X12_useCircuit_69 : decode cX12_useCircuit 69 = .ok (.getfield 90, 3) := by decide +kernel
theorem d_X12_useCircuit_72 : decode cX12_useCircuit 72 = .ok (.iconst 1, 1) := by decide +kernel
theorem d_X12_useCircuit_73 : decode cX12_useCircuit 73 = .ok (.if_icmp .ne 12, 3) := by decide +kernel
theorem d_X12_useCircuit_76 : decode cX12_useCircuit 76 = .ok (.aload_n 0, 1) := by decide +kernel
theorem d_X12_useCircuit_77 : decode cX12_useCircuit 77 = .ok (.getfield 45, 3) := by decide +kernel
theorem d_X12_useCircuit_80 : decode cX12_useCircuit 80 = .ok (.iload_n 1, 1) := by decide +kernel
theorem d_X12_useCircuit_81 : decode cX12_useCircuit 81 = .ok (.iaload, 1) := by decide +kernel
theorem d_X12_useCircuit_82 : decode cX12_useCircuit 82 = .ok (.goto 16, 3) := by decide +kernel
theorem d_X12_useCircuit_85 : decode cX12_useCircuit 85 = .ok (.aload_n 0, 1) := by decide +kernel
theorem d_X12_useCircuit_86 : decode cX12_useCircuit 86 = .ok (.getfield 19, 3) := by decide +kernel
theorem d_X12_useCircuit_89 : decode cX12_useCircuit 89 = .ok (.iconst 5, 1) := by decide +kernel
theorem d_X12_useCircuit_90 : decode cX12_useCircuit 90 = .ok (.aload_n 0, 1) := by decide +kernel
theorem d_X12_useCircuit_91 : decode cX12_useCircuit 91 = .ok (.getfield 77, 3) := by decide +kernel
theorem d_X12_useCircuit_94 : decode cX12_useCircuit 94 = .ok (.iload_n 1, 1) := by decide +kernel
theorem d_X12_useCircuit_95 : decode cX12_useCircuit 95 = .ok (.iaload, 1) := by decide +kernel
theorem d_X12_useCircuit_96 : decode cX12_useCircuit 96 = .ok (.imul, 1) := by decide +kernel
theorem d_X12_useCircuit_97 : decode cX12_useCircuit 97 = .ok (.iaload, 1) := by decide +kernel
theorem d_X12_useCircuit_98 : decode cX12_useCircuit 98 = .ok (.iastore, 1) := by decide +kernel
theorem d_X12_useCircuit_99 : decode cX12_useCircuit 99 = .ok (.aload_n 0, 1) := by decide +kernel
theorem d_X12_useCircuit_100 : decode cX12_useCircuit 100 = .ok (.getfield 45, 3) := by decide +kernel
theorem d_X12_useCircuit_103 : decode cX12_useCircuit 103 = .ok (.iload_n 1, 1) := by decide +kernel
theorem d_X12_useCircuit_104 : decode cX12_useCircuit 104 = .ok (.iaload, 1) := by decide +kernel
theorem d_X12_useCircuit_105 : decode cX12_useCircuit 105 = .ok (.aload_n 0, 1) := by decide +kernel
theorem d_X12_useCircuit_106 : decode cX12_useCircuit 106 = .ok (.getfield 16, 3) := by decide +kernel
theorem d_X12_useCircuit_109 : decode cX12_useCircuit 109 = .ok (.if_icmp .lt 9, 3) := by decide +kernel
theorem d_X12_useCircuit_112 : decode cX12_useCircuit 112 = .ok (.aload_n 0, 1) := by decide +kernel
theorem d_X12_useCircuit_113 : decode cX12_useCircuit 113 = .ok (.iconst 2, 1) := by decide +kernel
theorem d_X12_useCircuit_114 : decode cX12_useCircuit 114 = .ok (.invokevirtual 122, 3) := by decide +kernel
theorem d_X12_useCircuit_117 : decode cX12_useCircuit 117 = .ok (.ireturn, 1) := by decide +kernel
theorem d_X12_useCircuit_118 : decode cX12_useCircuit 118 = .ok (.iinc 1 1, 3) := by decide +kernel
theorem d_X12_useCircuit_121 : decode cX12_useCircuit 121 = .ok (.goto (-66), 3) := by decide +kernel
theorem d_X12_useCircuit_124 : decode cX12_useCircuit 124 = .ok (.aload_n 0, 1) := by decide +kernel
theorem d_X12_useCircuit_125 : decode cX12_useCircuit 125 = .ok (.aload_n 0, 1) := by decide +kernel
theorem d_X12_useCircuit_126 : decode cX12_useCircuit 126 = .ok (.getfield 97, 3) := by decide +kernel
theorem d_X12_useCircuit_129 : decode cX12_useCircuit 129 = .ok (.invokevirtual 144, 3) := by decide +kernel
theorem d_X12_useCircuit_132 : decode cX12_useCircuit 132 = .ok (.aload_n 0, 1) := by decide +kernel
theorem d_X12_useCircuit_133 : decode cX12_useCircuit 133 = .ok (.bipush 8, 2) := by decide +kernel
theorem d_X12_useCircuit_135 : decode cX12_useCircuit 135 = .ok (.invokevirtual 178, 3) := by decide +kernel
theorem d_X12_useCircuit_138 : decode cX12_useCircuit 138 = .ok (.ireturn, 1) := by decide +kernel
def f_X12_useCircuit_98 (F : Nat) (kb55 : Int32 → sm_M → Option (Int32 × sm_M)) (x1 : Int32) (y1 : Int32) (y2 : Int32) (M : sm_M) : Option (Int32 × sm_M) := sm_g (sm_ib y1 240) (sm_g (sm_ib x1 240) (if ((sm_mi M 89 y1.toNatClampNeg y2).1 89 x1.toNatClampNeg) < (((sm_mi M 89 y1.toNatClampNeg y2)).1 80 3) then (kb55 (x1 + 1) ((sm_mi M 89 y1.toNatClampNeg y2))) else ((f_X12_fail F (2 : Int32) (sm_mi M 89 y1.toNatClampNeg y2)).bind fun q4 => some (q4.1, q4.2))))
set_option maxRecDepth 100000 in
set_option maxHeartbeats 4000000 in
theorem j_X12_useCircuit_98 {sk : List sm_Sh} (hx : sm_ext skM sk) (F : Nat) (kb55 : Int32 → sm_M → Option (Int32 × sm_M)) (hkb55 : ∀ (x1 : Int32) (M : sm_M) (r : Int32 × sm_M), kb55 x1 M = some r → sm_J (md_X12_useCircuit, 2, sk, .inl (some (.int r.1)), r.2) 55 [some (.ref 80), some (.int x1)] [] M) : ∀ (x1 : Int32) (y1 : Int32) (y2 : Int32) (M : sm_M) (r : Int32 × sm_M), f_X12_useCircuit_98 F kb55 x1 y1 y2 M = some r → sm_J (md_X12_useCircuit, 2, sk, .inl (some (.int r.1)), r.2) 98 [some (.ref 80), some (.int x1)] [.int y2, .int y1, .ref 89] M := by
  intro x1 y1 y2  M r h
  unfold f_X12_useCircuit_98 at h
  obtain ⟨g1, h⟩ := sm_gt h
  refine sm_iastore (q := 99) d_X12_useCircuit_98 rfl (hx sx_89) (sm_ib_of g1) ?_
  refine sm_aload_n (q := 100) d_X12_useCircuit_99 rfl rfl ?_
  refine sm_getr (q := 103) d_X12_useCircuit_100 rfl fl_X12_45 (hx sx_80) rfl ?_
  refine sm_iload_n (q := 104) d_X12_useCircuit_103 rfl rfl ?_
  obtain ⟨g2, h⟩ := sm_gt h
  refine sm_iaload (q := 105) d_X12_useCircuit_104 rfl (hx sx_89) (sm_ib_of g2) ?_
  refine sm_aload_n (q := 106) d_X12_useCircuit_105 rfl rfl ?_
  refine sm_geti (q := 109) d_X12_useCircuit_106 rfl fl_X12_16 (hx sx_80) rfl ?_
  refine sm_icmp_lt (q := 112) (t := 118) d_X12_useCircuit_109 rfl rfl (fun c3 => ?_) (fun c3 => ?_)
  · replace h := sm_it c3 h
    refine sm_iinc (q := 121) (v := (x1 + 1)) (lt := [some (.ref 80), some (.int (x1 + 1))]) d_X12_useCircuit_118 rfl rfl (ii_1 _) (Nat.le_of_ble_eq_true rfl) rfl rfl ?_
    refine sm_goto (t := 55) d_X12_useCircuit_121 rfl ?_
    exact hkb55 (x1 + 1) ((sm_mi M 89 y1.toNatClampNeg y2)) _ h
  · replace h := sm_if c3 h
    refine sm_aload_n (q := 113) d_X12_useCircuit_112 rfl rfl ?_
    refine sm_iconst (q := 114) d_X12_useCircuit_113 rfl ci_2 ?_
    obtain ⟨q4, e4, h⟩ := sm_bd h
    refine sm_callV (q := 117) (d' := 0) [] [.int (2 : Int32)] d_X12_useCircuit_114 rfl lk_X12_122 (hx sx_80) rfl rfl rfl (Nat.le_of_ble_eq_true rfl) (Nat.le_of_ble_eq_true rfl) (c_X12_fail hx F (2 : Int32) (sm_mi M 89 y1.toNatClampNeg y2) _ e4) (st9 := [.int q4.1]) rfl ?_
    obtain rfl := Option.some.inj h
    exact sm_iret d_X12_useCircuit_117 rfl rfl rfl rfl
def f_X12_useCircuit_55b (F : Nat) (kb55 : Int32 → sm_M → Option (Int32 × sm_M)) (x1 : Int32) (M : sm_M) : Option (Int32 × sm_M) := if (M.1 80 5) ≤ x1 then ((f_X12_replace F (M.1 80 5) M).bind fun q2 => (f_X12_lessThan F (8 : Int32) q2).bind fun q3 => some (q3, q2)) else (if (M.1 80 1) = (1 : Int32) then (sm_g (sm_ib x1 240) (f_X12_useCircuit_98 F kb55 x1 x1 (M.1 89 x1.toNatClampNeg) M)) else (sm_g (sm_ib x1 200) (sm_g (sm_ib ((5 : Int32) * (M.1 99 x1.toNatClampNeg)) 1000) (f_X12_useCircuit_98 F kb55 x1 x1 (M.1 81 ((5 : Int32) * (M.1 99 x1.toNatClampNeg)).toNatClampNeg) M))))
set_option maxRecDepth 100000 in
set_option maxHeartbeats 4000000 in
theorem j_X12_useCircuit_55b {sk : List sm_Sh} (hx : sm_ext skM sk) (F : Nat) (kb55 : Int32 → sm_M → Option (Int32 × sm_M)) (hkb55 : ∀ (x1 : Int32) (M : sm_M) (r : Int32 × sm_M), kb55 x1 M = some r → sm_J (md_X12_useCircuit, 2, sk, .inl (some (.int r.1)), r.2) 55 [some (.ref 80), some (.int x1)] [] M) : ∀ (x1 : Int32) (M : sm_M) (r : Int32 × sm_M), f_X12_useCircuit_55b F kb55 x1 M = some r → sm_J (md_X12_useCircuit, 2, sk, .inl (some (.int r.1)), r.2) 55 [some (.ref 80), some (.int x1)] [] M := by
  intro x1  M r h
  unfold f_X12_useCircuit_55b at h
  refine sm_iload_n (q := 56) d_X12_useCircuit_55 rfl rfl ?_
  refine sm_aload_n (q := 57) d_X12_useCircuit_56 rfl rfl ?_
  refine sm_geti (q := 60) d_X12_useCircuit_57 rfl fl_X12_97 (hx sx_80) rfl ?_
  refine sm_icmp_ge (q := 63) (t := 124) d_X12_useCircuit_60 rfl rfl (fun c1 => ?_) (fun c1 => ?_)
  · replace h := sm_it c1 h
    refine sm_aload_n (q := 125) d_X12_useCircuit_124 rfl rfl ?_
    refine sm_aload_n (q := 126) d_X12_useCircuit_125 rfl rfl ?_
    refine sm_geti (q := 129) d_X12_useCircuit_126 rfl fl_X12_97 (hx sx_80) rfl ?_
    obtain ⟨q2, e2, h⟩ := sm_bd h
    refine sm_callV (q := 132) (d' := 1) [] [.int (M.1 80 5)] d_X12_useCircuit_129 rfl lk_X12_144 (hx sx_80) rfl rfl rfl (Nat.le_of_ble_eq_true rfl) (Nat.le_of_ble_eq_true rfl) (c_X12_replace hx F (M.1 80 5) M _ e2) (st9 := []) rfl ?_
    refine sm_aload_n (q := 133) d_X12_useCircuit_132 rfl rfl ?_
    refine sm_bipush (q := 135) d_X12_useCircuit_133 rfl cb_8 ?_
    obtain ⟨q3, e3, h⟩ := sm_bd h
    refine sm_callV (q := 138) (d' := 0) [] [.int (8 : Int32)] d_X12_useCircuit_135 rfl lk_X12_178 (hx sx_80) rfl rfl rfl (Nat.le_of_ble_eq_true rfl) (Nat.le_of_ble_eq_true rfl) (c_X12_lessThan hx F (8 : Int32) q2 _ e3) (st9 := [.int q3]) rfl ?_
    obtain rfl := Option.some.inj h
    exact sm_iret d_X12_useCircuit_138 rfl rfl rfl rfl
  · replace h := sm_if c1 h
    refine sm_aload_n (q := 64) d_X12_useCircuit_63 rfl rfl ?_
    refine sm_getr (q := 67) d_X12_useCircuit_64 rfl fl_X12_45 (hx sx_80) rfl ?_
    refine sm_iload_n (q := 68) d_X12_useCircuit_67 rfl rfl ?_
    refine sm_aload_n (q := 69) d_X12_useCircuit_68 rfl rfl ?_
    refine sm_geti (q := 72) d_X12_useCircuit_69 rfl fl_X12_90 (hx sx_80) rfl ?_
    refine sm_iconst (q := 73) d_X12_useCircuit_72 rfl ci_1 ?_
    refine sm_icmp_ne (q := 76) (t := 85) d_X12_useCircuit_73 rfl rfl (fun c4 => ?_) (fun c4 => ?_)
    · replace h := sm_if c4 h
      refine sm_aload_n (q := 86) d_X12_useCircuit_85 rfl rfl ?_
      refine sm_getr (q := 89) d_X12_useCircuit_86 rfl fl_X12_19 (hx sx_80) rfl ?_
      refine sm_iconst (q := 90) d_X12_useCircuit_89 rfl ci_5 ?_
      refine sm_aload_n (q := 91) d_X12_useCircuit_90 rfl rfl ?_
      refine sm_getr (q := 94) d_X12_useCircuit_91 rfl fl_X12_77 (hx sx_80) rfl ?_
      refine sm_iload_n (q := 95) d_X12_useCircuit_94 rfl rfl ?_
      obtain ⟨g5, h⟩ := sm_gt h
      refine sm_iaload (q := 96) d_X12_useCircuit_95 rfl (hx sx_99) (sm_ib_of g5) ?_
      refine sm_imul (q := 97) d_X12_useCircuit_96 rfl ?_
      obtain ⟨g6, h⟩ := sm_gt h
      refine sm_iaload (q := 98) d_X12_useCircuit_97 rfl (hx sx_81) (sm_ib_of g6) ?_
      exact j_X12_useCircuit_98 hx F kb55 hkb55 x1 x1 (M.1 81 ((5 : Int32) * (M.1 99 x1.toNatClampNeg)).toNatClampNeg) M _ h
    · replace h := sm_it c4 h
      refine sm_aload_n (q := 77) d_X12_useCircuit_76 rfl rfl ?_
      refine sm_getr (q := 80) d_X12_useCircuit_77 rfl fl_X12_45 (hx sx_80) rfl ?_
      refine sm_iload_n (q := 81) d_X12_useCircuit_80 rfl rfl ?_
      obtain ⟨g7, h⟩ := sm_gt h
      refine sm_iaload (q := 82) d_X12_useCircuit_81 rfl (hx sx_89) (sm_ib_of g7) ?_
      refine sm_goto (t := 98) d_X12_useCircuit_82 rfl ?_
      exact j_X12_useCircuit_98 hx F kb55 hkb55 x1 x1 (M.1 89 x1.toNatClampNeg) M _ h
def f_X12_useCircuit_55 (F : Nat) (n : Nat) : Int32 → sm_M → Option (Int32 × sm_M) := match n with
 | 0 => fun _ _ => none
 | n + 1 => f_X12_useCircuit_55b F (f_X12_useCircuit_55 F n)
theorem j_X12_useCircuit_55 {sk : List sm_Sh} (hx : sm_ext skM sk) (F : Nat) : ∀ (n : Nat) (x1 : Int32) (M : sm_M) (r : Int32 × sm_M), f_X12_useCircuit_55 F n x1 M = some r → sm_J (md_X12_useCircuit, 2, sk, .inl (some (.int r.1)), r.2) 55 [some (.ref 80), some (.int x1)] [] M := by
  intro n
  induction n with
  | zero => intro x1  M r h; exact nomatch (show (none : Option (Int32 × sm_M)) = some r from h)
  | succ n ih => exact j_X12_useCircuit_55b hx F (f_X12_useCircuit_55 F n) ih
def f_X12_useCircuit_53 (F : Nat) (M : sm_M) : Option (Int32 × sm_M) := f_X12_useCircuit_55 F F (0 : Int32) M
set_option maxRecDepth 100000 in
set_option maxHeartbeats 4000000 in
theorem j_X12_useCircuit_53 {sk : List sm_Sh} (hx : sm_ext skM sk) (F : Nat) : ∀ (M : sm_M) (r : Int32 × sm_M), f_X12_useCircuit_53 F M = some r → sm_J (md_X12_useCircuit, 2, sk, .inl (some (.int r.1)), r.2) 53 [some (.ref 80), none] [] M := by
  intro   M r h
  unfold f_X12_useCircuit_53 at h
  refine sm_iconst (q := 54) d_X12_useCircuit_53 rfl ci_0 ?_
  refine sm_istore_n (q := 55) (lt := [some (.ref 80), some (.int (0 : Int32))]) d_X12_useCircuit_54 rfl (Nat.le_of_ble_eq_true rfl) rfl rfl ?_
  exact j_X12_useCircuit_55 hx F F (0 : Int32) M _ h
def f_X12_useCircuit (F : Nat) (M : sm_M) : Option (Int32 × sm_M) := if (((sm_mi M 80 0 (0 : Int32))).1 80 1) = (3 : Int32) then ((f_X12_fail F (1 : Int32) (sm_mi M 80 0 (0 : Int32))).bind fun q9 => some (q9.1, q9.2)) else ((f_X12_findCircuit F (sm_mi M 80 0 (0 : Int32))).bind fun q2 => if q2.1 = 0 then ((f_X12_fail F (2 : Int32) q2.2).bind fun q8 => some (q8.1, q8.2)) else (if (q2.2.1 80 1) = (1 : Int32) then ((f_X12_order F q2.2).bind fun q5 => if q5.1 = 0 then ((f_X12_fail F (2 : Int32) q5.2).bind fun q7 => some (q7.1, q7.2)) else (f_X12_useCircuit_53 F q5.2)) else (f_X12_useCircuit_53 F q2.2)))
set_option maxRecDepth 100000 in
set_option maxHeartbeats 4000000 in
theorem j_X12_useCircuit {sk : List sm_Sh} (hx : sm_ext skM sk) (F : Nat) : ∀ (M : sm_M) (r : Int32 × sm_M), f_X12_useCircuit F M = some r → sm_J (md_X12_useCircuit, 2, sk, .inl (some (.int r.1)), r.2) 0 [some (.ref 80), none] [] M := by
  intro   M r h
  unfold f_X12_useCircuit at h
  refine sm_aload_n (q := 1) d_X12_useCircuit_0 rfl rfl ?_
  refine sm_iconst (q := 2) d_X12_useCircuit_1 rfl ci_0 ?_
  refine sm_puti (q := 5) d_X12_useCircuit_2 rfl fw_X12_1 (hx sx_80) rfl rfl rfl ?_
  refine sm_aload_n (q := 6) d_X12_useCircuit_5 rfl rfl ?_
  refine sm_geti (q := 9) d_X12_useCircuit_6 rfl fl_X12_90 (hx sx_80) rfl ?_
  refine sm_iconst (q := 10) d_X12_useCircuit_9 rfl ci_3 ?_
  refine sm_icmp_ne (q := 13) (t := 19) d_X12_useCircuit_10 rfl rfl (fun c1 => ?_) (fun c1 => ?_)
  · replace h := sm_if c1 h
    refine sm_aload_n (q := 20) d_X12_useCircuit_19 rfl rfl ?_
    obtain ⟨q2, e2, h⟩ := sm_bd h
    refine sm_callV (q := 23) (d' := 0) [] [] d_X12_useCircuit_20 rfl lk_X12_217 (hx sx_80) rfl rfl rfl (Nat.le_of_ble_eq_true rfl) (Nat.le_of_ble_eq_true rfl) (c_X12_findCircuit hx F (sm_mi M 80 0 (0 : Int32)) _ e2) (st9 := [.int q2.1]) rfl ?_
    refine sm_if_ne (q := 26) (t := 32) d_X12_useCircuit_23 rfl rfl (fun c3 => ?_) (fun c3 => ?_)
    · replace h := sm_if c3 h
      refine sm_aload_n (q := 33) d_X12_useCircuit_32 rfl rfl ?_
      refine sm_geti (q := 36) d_X12_useCircuit_33 rfl fl_X12_90 (hx sx_80) rfl ?_
      refine sm_iconst (q := 37) d_X12_useCircuit_36 rfl ci_1 ?_
      refine sm_icmp_ne (q := 40) (t := 53) d_X12_useCircuit_37 rfl rfl (fun c4 => ?_) (fun c4 => ?_)
      · replace h := sm_if c4 h
        exact j_X12_useCircuit_53 hx F q2.2 _ h
      · replace h := sm_it c4 h
        refine sm_aload_n (q := 41) d_X12_useCircuit_40 rfl rfl ?_
        obtain ⟨q5, e5, h⟩ := sm_bd h
        refine sm_callV (q := 44) (d' := 0) [] [] d_X12_useCircuit_41 rfl lk_X12_225 (hx sx_80) rfl rfl rfl (Nat.le_of_ble_eq_true rfl) (Nat.le_of_ble_eq_true rfl) (c_X12_order hx F q2.2 _ e5) (st9 := [.int q5.1]) rfl ?_
        refine sm_if_ne (q := 47) (t := 53) d_X12_useCircuit_44 rfl rfl (fun c6 => ?_) (fun c6 => ?_)
        · replace h := sm_if c6 h
          exact j_X12_useCircuit_53 hx F q5.2 _ h
        · replace h := sm_it c6 h
          refine sm_aload_n (q := 48) d_X12_useCircuit_47 rfl rfl ?_
          refine sm_iconst (q := 49) d_X12_useCircuit_48 rfl ci_2 ?_
          obtain ⟨q7, e7, h⟩ := sm_bd h
          refine sm_callV (q := 52) (d' := 0) [] [.int (2 : Int32)] d_X12_useCircuit_49 rfl lk_X12_122 (hx sx_80) rfl rfl rfl (Nat.le_of_ble_eq_true rfl) (Nat.le_of_ble_eq_true rfl) (c_X12_fail hx F (2 : Int32) q5.2 _ e7) (st9 := [.int q7.1]) rfl ?_
          obtain rfl := Option.some.inj h
          exact sm_iret d_X12_useCircuit_52 rfl rfl rfl rfl
    · replace h := sm_it c3 h
      refine sm_aload_n (q := 27) d_X12_useCircuit_26 rfl rfl ?_
      refine sm_iconst (q := 28) d_X12_useCircuit_27 rfl ci_2 ?_
      obtain ⟨q8, e8, h⟩ := sm_bd h
      refine sm_callV (q := 31) (d' := 0) [] [.int (2 : Int32)] d_X12_useCircuit_28 rfl lk_X12_122 (hx sx_80) rfl rfl rfl (Nat.le_of_ble_eq_true rfl) (Nat.le_of_ble_eq_true rfl) (c_X12_fail hx F (2 : Int32) q2.2 _ e8) (st9 := [.int q8.1]) rfl ?_
      obtain rfl := Option.some.inj h
      exact sm_iret d_X12_useCircuit_31 rfl rfl rfl rfl
  · replace h := sm_it c1 h
    refine sm_aload_n (q := 14) d_X12_useCircuit_13 rfl rfl ?_
    refine sm_iconst (q := 15) d_X12_useCircuit_14 rfl ci_1 ?_
    obtain ⟨q9, e9, h⟩ := sm_bd h
    refine sm_callV (q := 18) (d' := 0) [] [.int (1 : Int32)] d_X12_useCircuit_15 rfl lk_X12_122 (hx sx_80) rfl rfl rfl (Nat.le_of_ble_eq_true rfl) (Nat.le_of_ble_eq_true rfl) (c_X12_fail hx F (1 : Int32) (sm_mi M 80 0 (0 : Int32)) _ e9) (st9 := [.int q9.1]) rfl ?_
    obtain rfl := Option.some.inj h
    exact sm_iret d_X12_useCircuit_18 rfl rfl rfl rfl
theorem c_X12_useCircuit {sk : List sm_Sh} (hx : sm_ext skM sk) (F : Nat) (M : sm_M) (r : Int32 × sm_M) (h : f_X12_useCircuit F M = some r) : sm_Ct yX12_useCircuit md_X12_useCircuit 2 sk [.ref 80] M (.inl (some (.int r.1))) r.2 := sm_enter 1 pn_X12 rfl (Nat.le_of_ble_eq_true rfl) rfl (j_X12_useCircuit hx F M r h)
/-! UniversalCyclesModel.save()I -/
theorem d_X12_save_0 : decode cX12_save 0 = .ok (.aload_n 0, 1) := by decide +kernel
theorem d_X12_save_1 : decode cX12_save 1 = .ok (.iconst 0, 1) := by decide +kernel
theorem d_X12_save_2 : decode cX12_save 2 = .ok (.putfield 1, 3) := by decide +kernel
theorem d_X12_save_5 : decode cX12_save 5 = .ok (.aload_n 0, 1) := by decide +kernel
theorem d_X12_save_6 : decode cX12_save 6 = .ok (.iconst 1, 1) := by decide +kernel
theorem d_X12_save_7 : decode cX12_save 7 = .ok (.putfield 228, 3) := by decide +kernel
theorem d_X12_save_10 : decode cX12_save 10 = .ok (.aload_n 0, 1) := by decide +kernel
theorem d_X12_save_11 : decode cX12_save 11 = .ok (.aload_n 0, 1) := by decide +kernel
theorem d_X12_save_12 : decode cX12_save 12 = .ok (.getfield 90, 3) := by decide +kernel
theorem d_X12_save_15 : decode cX12_save 15 = .ok (.putfield 232, 3) := by decide +kernel
theorem d_X12_save_18 : decode cX12_save 18 = .ok (.aload_n 0, 1) := by decide +kernel
theorem d_X12_save_19 : decode cX12_save 19 = .ok (.aload_n 0, 1) := by decide +kernel
theorem d_X12_save_20 : decode cX12_save 20 = .ok (.getfield 13, 3) := by decide +kernel
theorem d_X12_save_23 : decode cX12_save 23 = .ok (.putfield 235, 3) := by decide +kernel
theorem d_X12_save_26 : decode cX12_save 26 = .ok (.aload_n 0, 1) := by decide +kernel
theorem d_X12_save_27 : decode cX12_save 27 = .ok (.aload_n 0, 1) := by decide +kernel
theorem d_X12_save_28 : decode cX12_save 28 = .ok (.getfield 16, 3) := by decide +kernel
theorem d_X12_save_31 : decode cX12_save 31 = .ok (.putfield 238, 3) := by decide +kernel
theorem d_X12_save_34 : decode cX12_save 34 = .ok (.aload_n 0, 1) := by decide +kernel
theorem d_X12_save_35 : decode cX12_save 35 = .ok (.aload_n 0, 1) := by decide +kernel
theorem d_X12_save_36 : decode cX12_save 36 = .ok (.getfield 125, 3) := by decide +kernel
theorem d_X12_save_39 : decode cX12_save 39 = .ok (.putfield 241, 3) := by decide +kernel
theorem d_X12_save_42 : decode cX12_save 42 = .ok (.iconst 0, 1) := by decide +kernel
theorem d_X12_save_43 : decode cX12_save 43 = .ok (.istore_n 1, 1) := by decide +kernel
theorem d_X12_save_44 : decode cX12_save 44 = .ok (.iload_n 1, 1) := by decide +kernel
theorem d_X12_save_45 : decode cX12_save 45 = .ok (.aload_n 0, 1) := by decide +kernel
theorem d_X12_save_46 : decode cX12_save 46 = .ok (.getfield 125, 3) := by decide +kernel
theorem d_X12_save_49 : decode cX12_save 49 = .ok (.if_icmp .ge 21, 3) := by decide +kernel
theorem d_X12_save_52 : decode cX12_save 52 = .ok (.aload_n 0, 1) := by decide +kernel
theorem d_X12_save_53 : decode cX12_save 53 = .ok (.getfield 84, 3) := by decide +kernel
theorem d_X12_save_56 : decode cX12_save 56 = .ok (.iload_n 1, 1) := by decide +kernel
theorem d_X12_save_57 : decode cX12_save 57 = .ok (.aload_n 0, 1) := by decide +kernel
theorem d_X12_save_58 : decode cX12_save 58 = .ok (.getfield 36, 3) := by decide +kernel
theorem d_X12_save_61 : decode cX12_save 61 = .ok (.iload_n 1, 1) := by decide +kernel
theorem d_X12_save_62 : decode cX12_save 62 = .ok (.iaload, 1) := by decide +kernel
theorem d_X12_save_63 : decode cX12_save 63 = .ok (.iastore, 1) := by decide +kernel
theorem d_X12_save_64 : decode cX12_save 64 = .ok (.iinc 1 1, 3) := by decide +kernel
theorem d_X12_save_67 : decode cX12_save 67 = .ok (.goto (-23), 3) := by decide +kernel
theorem d_X12_save_70 : decode cX12_save 70 = .ok (.aload_n 0, 1) := by decide +kernel
theorem d_X12_save_71 : decode cX12_save 71 = .ok (.getfield 125, 3) := by decide +kernel
theorem d_X12_save_74 : decode cX12_save 74 = .ok (.ireturn, 1) := by decide +kernel
def f_X12_save_44b (F : Nat) (kb44 : Int32 → sm_M → Option (Int32 × sm_M)) (x1 : Int32) (M : sm_M) : Option (Int32 × sm_M) := if (M.1 80 12) ≤ x1 then (some ((M.1 80 12), M)) else (sm_g (sm_ib x1 240) (sm_g (sm_ib x1 240) (kb44 (x1 + 1) ((sm_mi M 101 x1.toNatClampNeg (M.1 86 x1.toNatClampNeg))))))
set_option maxRecDepth 100000 in
set_option maxHeartbeats 4000000 in
theorem j_X12_save_44b {sk : List sm_Sh} (hx : sm_ext skM sk) (F : Nat) (kb44 : Int32 → sm_M → Option (Int32 × sm_M)) (hkb44 : ∀ (x1 : Int32) (M : sm_M) (r : Int32 × sm_M), kb44 x1 M = some r → sm_J (md_X12_save, 0, sk, .inl (some (.int r.1)), r.2) 44 [some (.ref 80), some (.int x1)] [] M) : ∀ (x1 : Int32) (M : sm_M) (r : Int32 × sm_M), f_X12_save_44b F kb44 x1 M = some r → sm_J (md_X12_save, 0, sk, .inl (some (.int r.1)), r.2) 44 [some (.ref 80), some (.int x1)] [] M := by
  intro x1  M r h
  unfold f_X12_save_44b at h
  refine sm_iload_n (q := 45) d_X12_save_44 rfl rfl ?_
  refine sm_aload_n (q := 46) d_X12_save_45 rfl rfl ?_
  refine sm_geti (q := 49) d_X12_save_46 rfl fl_X12_125 (hx sx_80) rfl ?_
  refine sm_icmp_ge (q := 52) (t := 70) d_X12_save_49 rfl rfl (fun c1 => ?_) (fun c1 => ?_)
  · replace h := sm_it c1 h
    refine sm_aload_n (q := 71) d_X12_save_70 rfl rfl ?_
    refine sm_geti (q := 74) d_X12_save_71 rfl fl_X12_125 (hx sx_80) rfl ?_
    obtain rfl := Option.some.inj h
    exact sm_iret d_X12_save_74 rfl rfl rfl rfl
  · replace h := sm_if c1 h
    refine sm_aload_n (q := 53) d_X12_save_52 rfl rfl ?_
    refine sm_getr (q := 56) d_X12_save_53 rfl fl_X12_84 (hx sx_80) rfl ?_
    refine sm_iload_n (q := 57) d_X12_save_56 rfl rfl ?_
    refine sm_aload_n (q := 58) d_X12_save_57 rfl rfl ?_
    refine sm_getr (q := 61) d_X12_save_58 rfl fl_X12_36 (hx sx_80) rfl ?_
    refine sm_iload_n (q := 62) d_X12_save_61 rfl rfl ?_
    obtain ⟨g2, h⟩ := sm_gt h
    refine sm_iaload (q := 63) d_X12_save_62 rfl (hx sx_86) (sm_ib_of g2) ?_
    obtain ⟨g3, h⟩ := sm_gt h
    refine sm_iastore (q := 64) d_X12_save_63 rfl (hx sx_101) (sm_ib_of g3) ?_
    refine sm_iinc (q := 67) (v := (x1 + 1)) (lt := [some (.ref 80), some (.int (x1 + 1))]) d_X12_save_64 rfl rfl (ii_1 _) (Nat.le_of_ble_eq_true rfl) rfl rfl ?_
    refine sm_goto (t := 44) d_X12_save_67 rfl ?_
    exact hkb44 (x1 + 1) ((sm_mi M 101 x1.toNatClampNeg (M.1 86 x1.toNatClampNeg))) _ h
def f_X12_save_44 (F : Nat) (n : Nat) : Int32 → sm_M → Option (Int32 × sm_M) := match n with
 | 0 => fun _ _ => none
 | n + 1 => f_X12_save_44b F (f_X12_save_44 F n)
theorem j_X12_save_44 {sk : List sm_Sh} (hx : sm_ext skM sk) (F : Nat) : ∀ (n : Nat) (x1 : Int32) (M : sm_M) (r : Int32 × sm_M), f_X12_save_44 F n x1 M = some r → sm_J (md_X12_save, 0, sk, .inl (some (.int r.1)), r.2) 44 [some (.ref 80), some (.int x1)] [] M := by
  intro n
  induction n with
  | zero => intro x1  M r h; exact nomatch (show (none : Option (Int32 × sm_M)) = some r from h)
  | succ n ih => exact j_X12_save_44b hx F (f_X12_save_44 F n) ih
def f_X12_save (F : Nat) (M : sm_M) : Option (Int32 × sm_M) := f_X12_save_44 F F (0 : Int32) ((sm_mi (sm_mi (sm_mi (sm_mi (sm_mi (sm_mi M 80 0 (0 : Int32)) 80 30 (1 : Int32)) 80 31 (((sm_mi (sm_mi M 80 0 (0 : Int32)) 80 30 (1 : Int32))).1 80 1)) 80 32 (((sm_mi (sm_mi (sm_mi M 80 0 (0 : Int32)) 80 30 (1 : Int32)) 80 31 (((sm_mi (sm_mi M 80 0 (0 : Int32)) 80 30 (1 : Int32))).1 80 1))).1 80 2)) 80 33 (((sm_mi (sm_mi (sm_mi (sm_mi M 80 0 (0 : Int32)) 80 30 (1 : Int32)) 80 31 (((sm_mi (sm_mi M 80 0 (0 : Int32)) 80 30 (1 : Int32))).1 80 1)) 80 32 (((sm_mi (sm_mi (sm_mi M 80 0 (0 : Int32)) 80 30 (1 : Int32)) 80 31 (((sm_mi (sm_mi M 80 0 (0 : Int32)) 80 30 (1 : Int32))).1 80 1))).1 80 2))).1 80 3)) 80 34 (((sm_mi (sm_mi (sm_mi (sm_mi (sm_mi M 80 0 (0 : Int32)) 80 30 (1 : Int32)) 80 31 (((sm_mi (sm_mi M 80 0 (0 : Int32)) 80 30 (1 : Int32))).1 80 1)) 80 32 (((sm_mi (sm_mi (sm_mi M 80 0 (0 : Int32)) 80 30 (1 : Int32)) 80 31 (((sm_mi (sm_mi M 80 0 (0 : Int32)) 80 30 (1 : Int32))).1 80 1))).1 80 2)) 80 33 (((sm_mi (sm_mi (sm_mi (sm_mi M 80 0 (0 : Int32)) 80 30 (1 : Int32)) 80 31 (((sm_mi (sm_mi M 80 0 (0 : Int32)) 80 30 (1 : Int32))).1 80 1)) 80 32 (((sm_mi (sm_mi (sm_mi M 80 0 (0 : Int32)) 80 30 (1 : Int32)) 80 31 (((sm_mi (sm_mi M 80 0 (0 : Int32)) 80 30 (1 : Int32))).1 80 1))).1 80 2))).1 80 3))).1 80 12)))
set_option maxRecDepth 100000 in
set_option maxHeartbeats 4000000 in
theorem j_X12_save {sk : List sm_Sh} (hx : sm_ext skM sk) (F : Nat) : ∀ (M : sm_M) (r : Int32 × sm_M), f_X12_save F M = some r → sm_J (md_X12_save, 0, sk, .inl (some (.int r.1)), r.2) 0 [some (.ref 80), none] [] M := by
  intro   M r h
  unfold f_X12_save at h
  refine sm_aload_n (q := 1) d_X12_save_0 rfl rfl ?_
  refine sm_iconst (q := 2) d_X12_save_1 rfl ci_0 ?_
  refine sm_puti (q := 5) d_X12_save_2 rfl fw_X12_1 (hx sx_80) rfl rfl rfl ?_
  refine sm_aload_n (q := 6) d_X12_save_5 rfl rfl ?_
  refine sm_iconst (q := 7) d_X12_save_6 rfl ci_1 ?_
  refine sm_puti (q := 10) d_X12_save_7 rfl fw_X12_228 (hx sx_80) rfl (by decide) (by decide) ?_
  refine sm_aload_n (q := 11) d_X12_save_10 rfl rfl ?_
  refine sm_aload_n (q := 12) d_X12_save_11 rfl rfl ?_
  refine sm_geti (q := 15) d_X12_save_12 rfl fl_X12_90 (hx sx_80) rfl ?_
  refine sm_puti (q := 18) d_X12_save_15 rfl fw_X12_232 (hx sx_80) rfl rfl rfl ?_
  refine sm_aload_n (q := 19) d_X12_save_18 rfl rfl ?_
  refine sm_aload_n (q := 20) d_X12_save_19 rfl rfl ?_
  refine sm_geti (q := 23) d_X12_save_20 rfl fl_X12_13 (hx sx_80) rfl ?_
  refine sm_puti (q := 26) d_X12_save_23 rfl fw_X12_235 (hx sx_80) rfl rfl rfl ?_
  refine sm_aload_n (q := 27) d_X12_save_26 rfl rfl ?_
  refine sm_aload_n (q := 28) d_X12_save_27 rfl rfl ?_
  refine sm_geti (q := 31) d_X12_save_28 rfl fl_X12_16 (hx sx_80) rfl ?_
  refine sm_puti (q := 34) d_X12_save_31 rfl fw_X12_238 (hx sx_80) rfl rfl rfl ?_
  refine sm_aload_n (q := 35) d_X12_save_34 rfl rfl ?_
  refine sm_aload_n (q := 36) d_X12_save_35 rfl rfl ?_
  refine sm_geti (q := 39) d_X12_save_36 rfl fl_X12_125 (hx sx_80) rfl ?_
  refine sm_puti (q := 42) d_X12_save_39 rfl fw_X12_241 (hx sx_80) rfl rfl rfl ?_
  refine sm_iconst (q := 43) d_X12_save_42 rfl ci_0 ?_
  refine sm_istore_n (q := 44) (lt := [some (.ref 80), some (.int (0 : Int32))]) d_X12_save_43 rfl (Nat.le_of_ble_eq_true rfl) rfl rfl ?_
  exact j_X12_save_44 hx F F (0 : Int32) ((sm_mi (sm_mi (sm_mi (sm_mi (sm_mi (sm_mi M 80 0 (0 : Int32)) 80 30 (1 : Int32)) 80 31 (((sm_mi (sm_mi M 80 0 (0 : Int32)) 80 30 (1 : Int32))).1 80 1)) 80 32 (((sm_mi (sm_mi (sm_mi M 80 0 (0 : Int32)) 80 30 (1 : Int32)) 80 31 (((sm_mi (sm_mi M 80 0 (0 : Int32)) 80 30 (1 : Int32))).1 80 1))).1 80 2)) 80 33 (((sm_mi (sm_mi (sm_mi (sm_mi M 80 0 (0 : Int32)) 80 30 (1 : Int32)) 80 31 (((sm_mi (sm_mi M 80 0 (0 : Int32)) 80 30 (1 : Int32))).1 80 1)) 80 32 (((sm_mi (sm_mi (sm_mi M 80 0 (0 : Int32)) 80 30 (1 : Int32)) 80 31 (((sm_mi (sm_mi M 80 0 (0 : Int32)) 80 30 (1 : Int32))).1 80 1))).1 80 2))).1 80 3)) 80 34 (((sm_mi (sm_mi (sm_mi (sm_mi (sm_mi M 80 0 (0 : Int32)) 80 30 (1 : Int32)) 80 31 (((sm_mi (sm_mi M 80 0 (0 : Int32)) 80 30 (1 : Int32))).1 80 1)) 80 32 (((sm_mi (sm_mi (sm_mi M 80 0 (0 : Int32)) 80 30 (1 : Int32)) 80 31 (((sm_mi (sm_mi M 80 0 (0 : Int32)) 80 30 (1 : Int32))).1 80 1))).1 80 2)) 80 33 (((sm_mi (sm_mi (sm_mi (sm_mi M 80 0 (0 : Int32)) 80 30 (1 : Int32)) 80 31 (((sm_mi (sm_mi M 80 0 (0 : Int32)) 80 30 (1 : Int32))).1 80 1)) 80 32 (((sm_mi (sm_mi (sm_mi M 80 0 (0 : Int32)) 80 30 (1 : Int32)) 80 31 (((sm_mi (sm_mi M 80 0 (0 : Int32)) 80 30 (1 : Int32))).1 80 1))).1 80 2))).1 80 3))).1 80 12))) _ h
theorem c_X12_save {sk : List sm_Sh} (hx : sm_ext skM sk) (F : Nat) (M : sm_M) (r : Int32 × sm_M) (h : f_X12_save F M = some r) : sm_Ct yX12_save md_X12_save 0 sk [.ref 80] M (.inl (some (.int r.1))) r.2 := sm_enter 1 pn_X12 rfl (Nat.le_of_ble_eq_true rfl) rfl (j_X12_save hx F M r h)
/-! UniversalCyclesModel.restore()I -/
theorem d_X12_restore_0 : decode cX12_restore 0 = .ok (.aload_n 0, 1) := by decide +kernel
theorem d_X12_restore_1 : decode cX12_restore 1 = .ok (.iconst 0, 1) := by decide +kernel
theorem d_X12_restore_2 : decode cX12_restore 2 = .ok (.putfield 1, 3) := by decide +kernel
theorem d_X12_restore_5 : decode cX12_restore 5 = .ok (.aload_n 0, 1) := by decide +kernel
theorem d_X12_restore_6 : decode cX12_restore 6 = .ok (.getfield 228, 3) := by decide +kernel
theorem d_X12_restore_9 : decode cX12_restore 9 = .ok (.ifCond .ne 9, 3) := by decide +kernel
theorem d_X12_restore_12 : decode cX12_restore 12 = .ok (.aload_n 0, 1) := by decide +kernel
theorem d_X12_restore_13 : decode cX12_restore 13 = .ok (.iconst 1, 1) := by decide +kernel
theorem d_X12_restore_14 : decode cX12_restore 14 = .ok (.invokevirtual 122, 3) := by decide +kernel
theorem d_X12_restore_17 : decode cX12_restore 17 = .ok (.ireturn, 1) := by decide +kernel
theorem d_X12_restore_18 : decode cX12_restore 18 = .ok (.aload_n 0, 1) := by decide +kernel
theorem d_X12_restore_19 : decode cX12_restore 19 = .ok (.aload_n 0, 1) := by decide +kernel
theorem d_X12_restore_20 : decode cX12_restore 20 = .ok (.getfield 232, 3) := by decide +kernel
theorem d_X12_restore_23 : decode cX12_restore 23 = .ok (.putfield 90, 3) := by decide +kernel
theorem d_X12_restore_26 : decode cX12_restore 26 = .ok (.aload_n 0, 1) := by decide +kernel
theorem d_X12_restore_27 : decode cX12_restore 27 = .ok (.aload_n 0, 1) := by decide +kernel
theorem d_X12_restore_28 : decode cX12_restore 28 = .ok (.getfield 235, 3) := by decide +kernel
theorem d_X12_restore_31 : decode cX12_restore 31 = .ok (.putfield 13, 3) := by decide +kernel
theorem d_X12_restore_34 : decode cX12_restore 34 = .ok (.aload_n 0, 1) := by decide +kernel
theorem d_X12_restore_35 : decode cX12_restore 35 = .ok (.aload_n 0, 1) := by decide +kernel
theorem d_X12_restore_36 : decode cX12_restore 36 = .ok (.getfield 238, 3) := by decide +kernel
theorem d_X12_restore_39 : decode cX12_restore 39 = .ok (.putfield 16, 3) := by decide +kernel
theorem d_X12_restore_42 : decode cX12_restore 42 = .ok (.aload_n 0, 1) := by decide +kernel
theorem d_X12_restore_43 : decode cX12_restore 43 = .ok (.invokevirtual 87, 3) := by decide +kernel
theorem d_X12_restore_46 : decode cX12_restore 46 = .ok (.aload_n 0, 1) := by decide +kernel
theorem d_X12_restore_47 : decode cX12_restore 47 = .ok (.aload_n 0, 1) := by decide +kernel
theorem d_X12_restore_48 : decode cX12_restore 48 = .ok (.getfield 241, 3) := by decide +kernel
theorem d_X12_restore_51 : decode cX12_restore 51 = .ok (.putfield 125, 3) := by decide +kernel
theorem d_X12_restore_54 : decode cX12_restore 54 = .ok (.iconst 0, 1) := by decide +kernel
theorem d_X12_restore_55 : decode cX12_restore 55 = .ok (.istore_n 1, 1) := by decide +kernel
theorem d_X12_restore_56 : decode cX12_restore 56 = .ok (.iload_n 1, 1) := by decide +kernel
theorem d_X12_restore_57 : decode cX12_restore 57 = .ok (.aload_n 0, 1) := by decide +kernel
theorem d_X12_restore_58 : decode cX12_restore 58 = .ok (.getfield 125, 3) := by decide +kernel
theorem d_X12_restore_61 : decode cX12_restore 61 = .ok (.if_icmp .ge 21, 3) := by decide +kernel
theorem d_X12_restore_64 : decode cX12_restore 64 = .ok (.aload_n 0, 1) := by decide +kernel
theorem d_X12_restore_65 : decode cX12_restore 65 = .ok (.getfield 36, 3) := by decide +kernel
theorem d_X12_restore_68 : decode cX12_restore 68 = .ok (.iload_n 1, 1) := by decide +kernel
theorem d_X12_restore_69 : decode cX12_restore 69 = .ok (.aload_n 0, 1) := by decide +kernel
theorem d_X12_restore_70 : decode cX12_restore 70 = .ok (.getfield 84, 3) := by decide +kernel
theorem d_X12_restore_73 : decode cX12_restore 73 = .ok (.iload_n 1, 1) := by decide +kernel
theorem d_X12_restore_74 : decode cX12_restore 74 = .ok (.iaload, 1) := by decide +kernel
theorem d_X12_restore_75 : decode cX12_restore 75 = .ok (.iastore, 1) := by decide +kernel
theorem d_X12_restore_76 : decode cX12_restore 76 = .ok (.iinc 1 1, 3) := by decide +kernel
theorem d_X12_restore_79 : decode cX12_restore 79 = .ok (.goto (-23), 3) := by decide +kernel
theorem d_X12_restore_82 : decode cX12_restore 82 = .ok (.aload_n 0, 1) := by decide +kernel
theorem d_X12_restore_83 : decode cX12_restore 83 = .ok (.iconst 0, 1) := by decide +kernel
theorem d_X12_restore_84 : decode cX12_restore 84 = .ok (.putfield 128, 3) := by decide +kernel
theorem d_X12_restore_87 : decode cX12_restore 87 = .ok (.aload_n 0, 1) := by decide +kernel
theorem d_X12_restore_88 : decode cX12_restore 88 = .ok (.getfield 125, 3) := by decide +kernel
theorem d_X12_restore_91 : decode cX12_restore 91 = .ok (.ireturn, 1) := by decide +kernel
def f_X12_restore_56b (F : Nat) (kb56 : Int32 → sm_M → Option (Int32 × sm_M)) (x1 : Int32) (M : sm_M) : Option (Int32 × sm_M) := if (M.1 80 12) ≤ x1 then (some ((((sm_mi M 80 15 (0 : Int32))).1 80 12), (sm_mi M 80 15 (0 : Int32)))) else (sm_g (sm_ib x1 240) (sm_g (sm_ib x1 240) (kb56 (x1 + 1) ((sm_mi M 86 x1.toNatClampNeg (M.1 101 x1.toNatClampNeg))))))
set_option maxRecDepth 100000 in
set_option maxHeartbeats 4000000 in
theorem j_X12_restore_56b {sk : List sm_Sh} (hx : sm_ext skM sk) (F : Nat) (kb56 : Int32 → sm_M → Option (Int32 × sm_M)) (hkb56 : ∀ (x1 : Int32) (M : sm_M) (r : Int32 × sm_M), kb56 x1 M = some r → sm_J (md_X12_restore, 3, sk, .inl (some (.int r.1)), r.2) 56 [some (.ref 80), some (.int x1)] [] M) : ∀ (x1 : Int32) (M : sm_M) (r : Int32 × sm_M), f_X12_restore_56b F kb56 x1 M = some r → sm_J (md_X12_restore, 3, sk, .inl (some (.int r.1)), r.2) 56 [some (.ref 80), some (.int x1)] [] M := by
  intro x1  M r h
  unfold f_X12_restore_56b at h
  refine sm_iload_n (q := 57) d_X12_restore_56 rfl rfl ?_
  refine sm_aload_n (q := 58) d_X12_restore_57 rfl rfl ?_
  refine sm_geti (q := 61) d_X12_restore_58 rfl fl_X12_125 (hx sx_80) rfl ?_
  refine sm_icmp_ge (q := 64) (t := 82) d_X12_restore_61 rfl rfl (fun c1 => ?_) (fun c1 => ?_)
  · replace h := sm_it c1 h
    refine sm_aload_n (q := 83) d_X12_restore_82 rfl rfl ?_
    refine sm_iconst (q := 84) d_X12_restore_83 rfl ci_0 ?_
    refine sm_puti (q := 87) d_X12_restore_84 rfl fw_X12_128 (hx sx_80) rfl rfl rfl ?_
    refine sm_aload_n (q := 88) d_X12_restore_87 rfl rfl ?_
    refine sm_geti (q := 91) d_X12_restore_88 rfl fl_X12_125 (hx sx_80) rfl ?_
    obtain rfl := Option.some.inj h
    exact sm_iret d_X12_restore_91 rfl rfl rfl rfl
  · replace h := sm_if c1 h
    refine sm_aload_n (q := 65) d_X12_restore_64 rfl rfl ?_
    refine sm_getr (q := 68) d_X12_restore_65 rfl fl_X12_36 (hx sx_80) rfl ?_
    refine sm_iload_n (q := 69) d_X12_restore_68 rfl rfl ?_
    refine sm_aload_n (q := 70) d_X12_restore_69 rfl rfl ?_
    refine sm_getr (q := 73) d_X12_restore_70 rfl fl_X12_84 (hx sx_80) rfl ?_
    refine sm_iload_n (q := 74) d_X12_restore_73 rfl rfl ?_
    obtain ⟨g2, h⟩ := sm_gt h
    refine sm_iaload (q := 75) d_X12_restore_74 rfl (hx sx_101) (sm_ib_of g2) ?_
    obtain ⟨g3, h⟩ := sm_gt h
    refine sm_iastore (q := 76) d_X12_restore_75 rfl (hx sx_86) (sm_ib_of g3) ?_
    refine sm_iinc (q := 79) (v := (x1 + 1)) (lt := [some (.ref 80), some (.int (x1 + 1))]) d_X12_restore_76 rfl rfl (ii_1 _) (Nat.le_of_ble_eq_true rfl) rfl rfl ?_
    refine sm_goto (t := 56) d_X12_restore_79 rfl ?_
    exact hkb56 (x1 + 1) ((sm_mi M 86 x1.toNatClampNeg (M.1 101 x1.toNatClampNeg))) _ h
def f_X12_restore_56 (F : Nat) (n : Nat) : Int32 → sm_M → Option (Int32 × sm_M) := match n with
 | 0 => fun _ _ => none
 | n + 1 => f_X12_restore_56b F (f_X12_restore_56 F n)
theorem j_X12_restore_56 {sk : List sm_Sh} (hx : sm_ext skM sk) (F : Nat) : ∀ (n : Nat) (x1 : Int32) (M : sm_M) (r : Int32 × sm_M), f_X12_restore_56 F n x1 M = some r → sm_J (md_X12_restore, 3, sk, .inl (some (.int r.1)), r.2) 56 [some (.ref 80), some (.int x1)] [] M := by
  intro n
  induction n with
  | zero => intro x1  M r h; exact nomatch (show (none : Option (Int32 × sm_M)) = some r from h)
  | succ n ih => exact j_X12_restore_56b hx F (f_X12_restore_56 F n) ih
def f_X12_restore (F : Nat) (M : sm_M) : Option (Int32 × sm_M) := if (((sm_mi M 80 0 (0 : Int32))).1 80 30) = 0 then ((f_X12_fail F (1 : Int32) (sm_mi M 80 0 (0 : Int32))).bind fun q3 => some (q3.1, q3.2)) else ((f_X12_fill F (sm_mi (sm_mi (sm_mi (sm_mi M 80 0 (0 : Int32)) 80 1 (((sm_mi M 80 0 (0 : Int32))).1 80 31)) 80 2 (((sm_mi (sm_mi M 80 0 (0 : Int32)) 80 1 (((sm_mi M 80 0 (0 : Int32))).1 80 31))).1 80 32)) 80 3 (((sm_mi (sm_mi (sm_mi M 80 0 (0 : Int32)) 80 1 (((sm_mi M 80 0 (0 : Int32))).1 80 31)) 80 2 (((sm_mi (sm_mi M 80 0 (0 : Int32)) 80 1 (((sm_mi M 80 0 (0 : Int32))).1 80 31))).1 80 32))).1 80 33))).bind fun q2 => f_X12_restore_56 F F (0 : Int32) ((sm_mi q2 80 12 (q2.1 80 34))))
set_option maxRecDepth 100000 in
set_option maxHeartbeats 4000000 in
theorem j_X12_restore {sk : List sm_Sh} (hx : sm_ext skM sk) (F : Nat) : ∀ (M : sm_M) (r : Int32 × sm_M), f_X12_restore F M = some r → sm_J (md_X12_restore, 3, sk, .inl (some (.int r.1)), r.2) 0 [some (.ref 80), none] [] M := by
  intro   M r h
  unfold f_X12_restore at h
  refine sm_aload_n (q := 1) d_X12_restore_0 rfl rfl ?_
  refine sm_iconst (q := 2) d_X12_restore_1 rfl ci_0 ?_
  refine sm_puti (q := 5) d_X12_restore_2 rfl fw_X12_1 (hx sx_80) rfl rfl rfl ?_
  refine sm_aload_n (q := 6) d_X12_restore_5 rfl rfl ?_
  refine sm_geti (q := 9) d_X12_restore_6 rfl fl_X12_228 (hx sx_80) rfl ?_
  refine sm_if_ne (q := 12) (t := 18) d_X12_restore_9 rfl rfl (fun c1 => ?_) (fun c1 => ?_)
  · replace h := sm_if c1 h
    refine sm_aload_n (q := 19) d_X12_restore_18 rfl rfl ?_
    refine sm_aload_n (q := 20) d_X12_restore_19 rfl rfl ?_
    refine sm_geti (q := 23) d_X12_restore_20 rfl fl_X12_232 (hx sx_80) rfl ?_
    refine sm_puti (q := 26) d_X12_restore_23 rfl fw_X12_90 (hx sx_80) rfl rfl rfl ?_
    refine sm_aload_n (q := 27) d_X12_restore_26 rfl rfl ?_
    refine sm_aload_n (q := 28) d_X12_restore_27 rfl rfl ?_
    refine sm_geti (q := 31) d_X12_restore_28 rfl fl_X12_235 (hx sx_80) rfl ?_
    refine sm_puti (q := 34) d_X12_restore_31 rfl fw_X12_13 (hx sx_80) rfl rfl rfl ?_
    refine sm_aload_n (q := 35) d_X12_restore_34 rfl rfl ?_
    refine sm_aload_n (q := 36) d_X12_restore_35 rfl rfl ?_
    refine sm_geti (q := 39) d_X12_restore_36 rfl fl_X12_238 (hx sx_80) rfl ?_
    refine sm_puti (q := 42) d_X12_restore_39 rfl fw_X12_16 (hx sx_80) rfl rfl rfl ?_
    refine sm_aload_n (q := 43) d_X12_restore_42 rfl rfl ?_
    obtain ⟨q2, e2, h⟩ := sm_bd h
    refine sm_callV (q := 46) (d' := 2) [] [] d_X12_restore_43 rfl lk_X12_87 (hx sx_80) rfl rfl rfl (Nat.le_of_ble_eq_true rfl) (Nat.le_of_ble_eq_true rfl) (c_X12_fill hx F (sm_mi (sm_mi (sm_mi (sm_mi M 80 0 (0 : Int32)) 80 1 (((sm_mi M 80 0 (0 : Int32))).1 80 31)) 80 2 (((sm_mi (sm_mi M 80 0 (0 : Int32)) 80 1 (((sm_mi M 80 0 (0 : Int32))).1 80 31))).1 80 32)) 80 3 (((sm_mi (sm_mi (sm_mi M 80 0 (0 : Int32)) 80 1 (((sm_mi M 80 0 (0 : Int32))).1 80 31)) 80 2 (((sm_mi (sm_mi M 80 0 (0 : Int32)) 80 1 (((sm_mi M 80 0 (0 : Int32))).1 80 31))).1 80 32))).1 80 33)) _ e2) (st9 := []) rfl ?_
    refine sm_aload_n (q := 47) d_X12_restore_46 rfl rfl ?_
    refine sm_aload_n (q := 48) d_X12_restore_47 rfl rfl ?_
    refine sm_geti (q := 51) d_X12_restore_48 rfl fl_X12_241 (hx sx_80) rfl ?_
    refine sm_puti (q := 54) d_X12_restore_51 rfl fw_X12_125 (hx sx_80) rfl rfl rfl ?_
    refine sm_iconst (q := 55) d_X12_restore_54 rfl ci_0 ?_
    refine sm_istore_n (q := 56) (lt := [some (.ref 80), some (.int (0 : Int32))]) d_X12_restore_55 rfl (Nat.le_of_ble_eq_true rfl) rfl rfl ?_
    exact j_X12_restore_56 hx F F (0 : Int32) ((sm_mi q2 80 12 (q2.1 80 34))) _ h
  · replace h := sm_it c1 h
    refine sm_aload_n (q := 13) d_X12_restore_12 rfl rfl ?_
    refine sm_iconst (q := 14) d_X12_restore_13 rfl ci_1 ?_
    obtain ⟨q3, e3, h⟩ := sm_bd h
    refine sm_callV (q := 17) (d' := 0) [] [.int (1 : Int32)] d_X12_restore_14 rfl lk_X12_122 (hx sx_80) rfl rfl rfl (Nat.le_of_ble_eq_true rfl) (Nat.le_of_ble_eq_true rfl) (c_X12_fail hx F (1 : Int32) (sm_mi M 80 0 (0 : Int32)) _ e3) (st9 := [.int q3.1]) rfl ?_
    obtain rfl := Option.some.inj h
    exact sm_iret d_X12_restore_17 rfl rfl rfl rfl
theorem c_X12_restore {sk : List sm_Sh} (hx : sm_ext skM sk) (F : Nat) (M : sm_M) (r : Int32 × sm_M) (h : f_X12_restore F M = some r) : sm_Ct yX12_restore md_X12_restore 3 sk [.ref 80] M (.inl (some (.int r.1))) r.2 := sm_enter 1 pn_X12 rfl (Nat.le_of_ble_eq_true rfl) rfl (j_X12_restore hx F M r h)
