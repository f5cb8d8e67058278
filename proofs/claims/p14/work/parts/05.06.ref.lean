theorem dX12_lay_0 : decode cX12_lay 0 = .ok (.aload_n 0, 1) := by decide +kernel
theorem dX12_lay_1 : decode cX12_lay 1 = .ok (.iload_n 1, 1) := by decide +kernel
theorem dX12_lay_2 : decode cX12_lay 2 = .ok (.invokevirtual 207, 3) := by decide +kernel
theorem dX12_lay_5 : decode cX12_lay 5 = .ok (.iconst 0, 1) := by decide +kernel
theorem dX12_lay_6 : decode cX12_lay 6 = .ok (.istore_n 3, 1) := by decide +kernel
theorem dX12_lay_7 : decode cX12_lay 7 = .ok (.iload_n 3, 1) := by decide +kernel
theorem dX12_lay_8 : decode cX12_lay 8 = .ok (.aload_n 0, 1) := by decide +kernel
theorem dX12_lay_9 : decode cX12_lay 9 = .ok (.getfield 23, 3) := by decide +kernel
theorem dX12_lay_12 : decode cX12_lay 12 = .ok (.iload_n 1, 1) := by decide +kernel
theorem dX12_lay_13 : decode cX12_lay 13 = .ok (.iaload, 1) := by decide +kernel
theorem dX12_lay_14 : decode cX12_lay 14 = .ok (.if_icmp .ge 16, 3) := by decide +kernel
theorem dX12_lay_17 : decode cX12_lay 17 = .ok (.aload_n 0, 1) := by decide +kernel
theorem dX12_lay_18 : decode cX12_lay 18 = .ok (.getfield 87, 3) := by decide +kernel
theorem dX12_lay_21 : decode cX12_lay 21 = .ok (.iload_n 3, 1) := by decide +kernel
theorem dX12_lay_22 : decode cX12_lay 22 = .ok (.iconst 0, 1) := by decide +kernel
theorem dX12_lay_23 : decode cX12_lay 23 = .ok (.bastore, 1) := by decide +kernel
theorem dX12_lay_24 : decode cX12_lay 24 = .ok (.iinc 3 1, 3) := by decide +kernel
theorem dX12_lay_27 : decode cX12_lay 27 = .ok (.goto (-20), 3) := by decide +kernel
theorem dX12_lay_30 : decode cX12_lay 30 = .ok (.iconst 1, 1) := by decide +kernel
theorem dX12_lay_31 : decode cX12_lay 31 = .ok (.istore_n 3, 1) := by decide +kernel
theorem dX12_lay_32 : decode cX12_lay 32 = .ok (.iload_n 3, 1) := by decide +kernel
theorem dX12_lay_33 : decode cX12_lay 33 = .ok (.ifCond .eq 265, 3) := by decide +kernel
theorem dX12_lay_36 : decode cX12_lay 36 = .ok (.iconst 0, 1) := by decide +kernel
theorem dX12_lay_37 : decode cX12_lay 37 = .ok (.istore 4, 2) := by decide +kernel
theorem dX12_lay_39 : decode cX12_lay 39 = .ok (.iconst 0, 1) := by decide +kernel
theorem dX12_lay_40 : decode cX12_lay 40 = .ok (.istore 5, 2) := by decide +kernel
theorem dX12_lay_42 : decode cX12_lay 42 = .ok (.iload 5, 2) := by decide +kernel
theorem dX12_lay_44 : decode cX12_lay 44 = .ok (.aload_n 0, 1) := by decide +kernel
theorem dX12_lay_45 : decode cX12_lay 45 = .ok (.getfield 23, 3) := by decide +kernel
theorem dX12_lay_48 : decode cX12_lay 48 = .ok (.iload_n 1, 1) := by decide +kernel
theorem dX12_lay_49 : decode cX12_lay 49 = .ok (.iaload, 1) := by decide +kernel
theorem dX12_lay_50 : decode cX12_lay 50 = .ok (.if_icmp .ge 140, 3) := by decide +kernel
theorem dX12_lay_53 : decode cX12_lay 53 = .ok (.aload_n 0, 1) := by decide +kernel
theorem dX12_lay_54 : decode cX12_lay 54 = .ok (.iload_n 1, 1) := by decide +kernel
theorem dX12_lay_55 : decode cX12_lay 55 = .ok (.iload 5, 2) := by decide +kernel
theorem dX12_lay_57 : decode cX12_lay 57 = .ok (.invokevirtual 201, 3) := by decide +kernel
theorem dX12_lay_60 : decode cX12_lay 60 = .ok (.istore 6, 2) := by decide +kernel
theorem dX12_lay_62 : decode cX12_lay 62 = .ok (.aload_n 0, 1) := by decide +kernel
theorem dX12_lay_63 : decode cX12_lay 63 = .ok (.getfield 81, 3) := by decide +kernel
theorem dX12_lay_66 : decode cX12_lay 66 = .ok (.iload 5, 2) := by decide +kernel
theorem dX12_lay_68 : decode cX12_lay 68 = .ok (.iload 4, 2) := by decide +kernel
theorem dX12_lay_70 : decode cX12_lay 70 = .ok (.iastore, 1) := by decide +kernel
theorem dX12_lay_71 : decode cX12_lay 71 = .ok (.iload 4, 2) := by decide +kernel
theorem dX12_lay_73 : decode cX12_lay 73 = .ok (.aload_n 0, 1) := by decide +kernel
theorem dX12_lay_74 : decode cX12_lay 74 = .ok (.iload_n 1, 1) := by decide +kernel
theorem dX12_lay_75 : decode cX12_lay 75 = .ok (.iload 5, 2) := by decide +kernel
theorem dX12_lay_77 : decode cX12_lay 77 = .ok (.iload_n 2, 1) := by decide +kernel
theorem dX12_lay_78 : decode cX12_lay 78 = .ok (.invokevirtual 217, 3) := by decide +kernel
theorem dX12_lay_81 : decode cX12_lay 81 = .ok (.iload_n 2, 1) := by decide +kernel
theorem dX12_lay_82 : decode cX12_lay 82 = .ok (.ifCond .eq 15, 3) := by decide +kernel
theorem dX12_lay_85 : decode cX12_lay 85 = .ok (.iload 6, 2) := by decide +kernel
theorem dX12_lay_87 : decode cX12_lay 87 = .ok (.sipush 188, 3) := by decide +kernel
theorem dX12_lay_90 : decode cX12_lay 90 = .ok (.if_icmp .ne 7, 3) := by decide +kernel
theorem dX12_lay_93 : decode cX12_lay 93 = .ok (.iconst 1, 1) := by decide +kernel
theorem dX12_lay_94 : decode cX12_lay 94 = .ok (.goto 4, 3) := by decide +kernel
theorem dX12_lay_97 : decode cX12_lay 97 = .ok (.iconst 0, 1) := by decide +kernel
theorem dX12_lay_98 : decode cX12_lay 98 = .ok (.iadd, 1) := by decide +kernel
theorem dX12_lay_99 : decode cX12_lay 99 = .ok (.iadd, 1) := by decide +kernel
theorem dX12_lay_100 : decode cX12_lay 100 = .ok (.istore 4, 2) := by decide +kernel
theorem dX12_lay_102 : decode cX12_lay 102 = .ok (.aload_n 0, 1) := by decide +kernel
theorem dX12_lay_103 : decode cX12_lay 103 = .ok (.getfield 84, 3) := by decide +kernel
theorem dX12_lay_106 : decode cX12_lay 106 = .ok (.iload 5, 2) := by decide +kernel
theorem dX12_lay_108 : decode cX12_lay 108 = .ok (.iload 4, 2) := by decide +kernel
theorem dX12_lay_110 : decode cX12_lay 110 = .ok (.iastore, 1) := by decide +kernel
theorem dX12_lay_111 : decode cX12_lay 111 = .ok (.iload 4, 2) := by decide +kernel
theorem dX12_lay_113 : decode cX12_lay 113 = .ok (.iload 6, 2) := by decide +kernel
theorem dX12_lay_115 : decode cX12_lay 115 = .ok (.sipush 167, 3) := by decide +kernel
theorem dX12_lay_118 : decode cX12_lay 118 = .ok (.if_icmp .eq 11, 3) := by decide +kernel
theorem dX12_lay_121 : decode cX12_lay 121 = .ok (.iload 6, 2) := by decide +kernel
theorem dX12_lay_123 : decode cX12_lay 123 = .ok (.sipush 168, 3) := by decide +kernel
theorem dX12_lay_126 : decode cX12_lay 126 = .ok (.if_icmp .ne 21, 3) := by decide +kernel
theorem dX12_lay_129 : decode cX12_lay 129 = .ok (.aload_n 0, 1) := by decide +kernel
theorem dX12_lay_130 : decode cX12_lay 130 = .ok (.getfield 87, 3) := by decide +kernel
theorem dX12_lay_133 : decode cX12_lay 133 = .ok (.iload 5, 2) := by decide +kernel
theorem dX12_lay_135 : decode cX12_lay 135 = .ok (.baload, 1) := by decide +kernel
theorem dX12_lay_136 : decode cX12_lay 136 = .ok (.ifCond .eq 7, 3) := by decide +kernel
theorem dX12_lay_139 : decode cX12_lay 139 = .ok (.iconst 3, 1) := by decide +kernel
theorem dX12_lay_140 : decode cX12_lay 140 = .ok (.goto 34, 3) := by decide +kernel
theorem dX12_lay_143 : decode cX12_lay 143 = .ok (.iconst 2, 1) := by decide +kernel
theorem dX12_lay_144 : decode cX12_lay 144 = .ok (.goto 30, 3) := by decide +kernel
theorem dX12_lay_147 : decode cX12_lay 147 = .ok (.iload 6, 2) := by decide +kernel
theorem dX12_lay_149 : decode cX12_lay 149 = .ok (.invokestatic 161, 3) := by decide +kernel
theorem dX12_lay_152 : decode cX12_lay 152 = .ok (.ifCond .eq 17, 3) := by decide +kernel
theorem dX12_lay_155 : decode cX12_lay 155 = .ok (.aload_n 0, 1) := by decide +kernel
theorem dX12_lay_156 : decode cX12_lay 156 = .ok (.getfield 87, 3) := by decide +kernel
theorem dX12_lay_159 : decode cX12_lay 159 = .ok (.iload 5, 2) := by decide +kernel
theorem dX12_lay_161 : decode cX12_lay 161 = .ok (.baload, 1) := by decide +kernel
theorem dX12_lay_162 : decode cX12_lay 162 = .ok (.ifCond .eq 7, 3) := by decide +kernel
theorem dX12_lay_165 : decode cX12_lay 165 = .ok (.iconst 5, 1) := by decide +kernel
theorem dX12_lay_166 : decode cX12_lay 166 = .ok (.goto 8, 3) := by decide +kernel
theorem dX12_lay_169 : decode cX12_lay 169 = .ok (.iload 6, 2) := by decide +kernel
theorem dX12_lay_171 : decode cX12_lay 171 = .ok (.invokestatic 120, 3) := by decide +kernel
theorem dX12_lay_174 : decode cX12_lay 174 = .ok (.iadd, 1) := by decide +kernel
theorem dX12_lay_175 : decode cX12_lay 175 = .ok (.istore 4, 2) := by decide +kernel
theorem dX12_lay_177 : decode cX12_lay 177 = .ok (.iload 5, 2) := by decide +kernel
theorem dX12_lay_179 : decode cX12_lay 179 = .ok (.iload 6, 2) := by decide +kernel
theorem dX12_lay_181 : decode cX12_lay 181 = .ok (.invokestatic 120, 3) := by decide +kernel
theorem dX12_lay_184 : decode cX12_lay 184 = .ok (.iadd, 1) := by decide +kernel
theorem dX12_lay_185 : decode cX12_lay 185 = .ok (.istore 5, 2) := by decide +kernel
theorem dX12_lay_187 : decode cX12_lay 187 = .ok (.goto (-145), 3) := by decide +kernel
theorem dX12_lay_190 : decode cX12_lay 190 = .ok (.aload_n 0, 1) := by decide +kernel
theorem dX12_lay_191 : decode cX12_lay 191 = .ok (.getfield 81, 3) := by decide +kernel
theorem dX12_lay_194 : decode cX12_lay 194 = .ok (.aload_n 0, 1) := by decide +kernel
theorem dX12_lay_195 : decode cX12_lay 195 = .ok (.getfield 23, 3) := by decide +kernel
theorem dX12_lay_198 : decode cX12_lay 198 = .ok (.iload_n 1, 1) := by decide +kernel
theorem dX12_lay_199 : decode cX12_lay 199 = .ok (.iaload, 1) := by decide +kernel
theorem dX12_lay_200 : decode cX12_lay 200 = .ok (.iload 4, 2) := by decide +kernel
theorem dX12_lay_202 : decode cX12_lay 202 = .ok (.iastore, 1) := by decide +kernel
theorem dX12_lay_203 : decode cX12_lay 203 = .ok (.iconst 0, 1) := by decide +kernel
theorem dX12_lay_204 : decode cX12_lay 204 = .ok (.istore_n 3, 1) := by decide +kernel
theorem dX12_lay_205 : decode cX12_lay 205 = .ok (.iconst 0, 1) := by decide +kernel
theorem dX12_lay_206 : decode cX12_lay 206 = .ok (.istore 5, 2) := by decide +kernel
theorem dX12_lay_208 : decode cX12_lay 208 = .ok (.iload 5, 2) := by decide +kernel
theorem dX12_lay_210 : decode cX12_lay 210 = .ok (.aload_n 0, 1) := by decide +kernel
theorem dX12_lay_211 : decode cX12_lay 211 = .ok (.getfield 23, 3) := by decide +kernel
theorem dX12_lay_214 : decode cX12_lay 214 = .ok (.iload_n 1, 1) := by decide +kernel
theorem dX12_lay_215 : decode cX12_lay 215 = .ok (.iaload, 1) := by decide +kernel
theorem dX12_lay_216 : decode cX12_lay 216 = .ok (.if_icmp .ge 79, 3) := by decide +kernel
theorem dX12_lay_219 : decode cX12_lay 219 = .ok (.aload_n 0, 1) := by decide +kernel
theorem dX12_lay_220 : decode cX12_lay 220 = .ok (.iload_n 1, 1) := by decide +kernel
theorem dX12_lay_221 : decode cX12_lay 221 = .ok (.iload 5, 2) := by decide +kernel
theorem dX12_lay_223 : decode cX12_lay 223 = .ok (.invokevirtual 201, 3) := by decide +kernel
theorem dX12_lay_226 : decode cX12_lay 226 = .ok (.istore 6, 2) := by decide +kernel
theorem dX12_lay_228 : decode cX12_lay 228 = .ok (.iload 6, 2) := by decide +kernel
theorem dX12_lay_230 : decode cX12_lay 230 = .ok (.invokestatic 161, 3) := by decide +kernel
theorem dX12_lay_233 : decode cX12_lay 233 = .ok (.ifCond .eq 49, 3) := by decide +kernel
theorem dX12_lay_236 : decode cX12_lay 236 = .ok (.aload_n 0, 1) := by decide +kernel
theorem dX12_lay_237 : decode cX12_lay 237 = .ok (.getfield 87, 3) := by decide +kernel
theorem dX12_lay_240 : decode cX12_lay 240 = .ok (.iload 5, 2) := by decide +kernel
theorem dX12_lay_242 : decode cX12_lay 242 = .ok (.baload, 1) := by decide +kernel
theorem dX12_lay_243 : decode cX12_lay 243 = .ok (.ifCond .ne 39, 3) := by decide +kernel
theorem dX12_lay_246 : decode cX12_lay 246 = .ok (.aload_n 0, 1) := by decide +kernel
theorem dX12_lay_247 : decode cX12_lay 247 = .ok (.getfield 81, 3) := by decide +kernel
theorem dX12_lay_250 : decode cX12_lay 250 = .ok (.aload_n 0, 1) := by decide +kernel
theorem dX12_lay_251 : decode cX12_lay 251 = .ok (.iload_n 1, 1) := by decide +kernel
theorem dX12_lay_252 : decode cX12_lay 252 = .ok (.iload 5, 2) := by decide +kernel
theorem dX12_lay_254 : decode cX12_lay 254 = .ok (.invokevirtual 204, 3) := by decide +kernel
theorem dX12_lay_257 : decode cX12_lay 257 = .ok (.iaload, 1) := by decide +kernel
theorem dX12_lay_258 : decode cX12_lay 258 = .ok (.aload_n 0, 1) := by decide +kernel
theorem dX12_lay_259 : decode cX12_lay 259 = .ok (.getfield 84, 3) := by decide +kernel
theorem dX12_lay_262 : decode cX12_lay 262 = .ok (.iload 5, 2) := by decide +kernel
theorem dX12_lay_264 : decode cX12_lay 264 = .ok (.iaload, 1) := by decide +kernel
theorem dX12_lay_265 : decode cX12_lay 265 = .ok (.isub, 1) := by decide +kernel
theorem dX12_lay_266 : decode cX12_lay 266 = .ok (.invokestatic 221, 3) := by decide +kernel
theorem dX12_lay_269 : decode cX12_lay 269 = .ok (.ifCond .ne 13, 3) := by decide +kernel
theorem dX12_lay_272 : decode cX12_lay 272 = .ok (.aload_n 0, 1) := by decide +kernel
theorem dX12_lay_273 : decode cX12_lay 273 = .ok (.getfield 87, 3) := by decide +kernel
theorem dX12_lay_276 : decode cX12_lay 276 = .ok (.iload 5, 2) := by decide +kernel
theorem dX12_lay_278 : decode cX12_lay 278 = .ok (.iconst 1, 1) := by decide +kernel
theorem dX12_lay_279 : decode cX12_lay 279 = .ok (.bastore, 1) := by decide +kernel
theorem dX12_lay_280 : decode cX12_lay 280 = .ok (.iconst 1, 1) := by decide +kernel
theorem dX12_lay_281 : decode cX12_lay 281 = .ok (.istore_n 3, 1) := by decide +kernel
theorem dX12_lay_282 : decode cX12_lay 282 = .ok (.iload 5, 2) := by decide +kernel
theorem dX12_lay_284 : decode cX12_lay 284 = .ok (.iload 6, 2) := by decide +kernel
theorem dX12_lay_286 : decode cX12_lay 286 = .ok (.invokestatic 120, 3) := by decide +kernel
theorem dX12_lay_289 : decode cX12_lay 289 = .ok (.iadd, 1) := by decide +kernel
theorem dX12_lay_290 : decode cX12_lay 290 = .ok (.istore 5, 2) := by decide +kernel
theorem dX12_lay_292 : decode cX12_lay 292 = .ok (.goto (-84), 3) := by decide +kernel
theorem dX12_lay_295 : decode cX12_lay 295 = .ok (.goto (-263), 3) := by decide +kernel
theorem dX12_lay_298 : decode cX12_lay 298 = .ok (.aload_n 0, 1) := by decide +kernel
theorem dX12_lay_299 : decode cX12_lay 299 = .ok (.getfield 81, 3) := by decide +kernel
theorem dX12_lay_302 : decode cX12_lay 302 = .ok (.aload_n 0, 1) := by decide +kernel
theorem dX12_lay_303 : decode cX12_lay 303 = .ok (.getfield 23, 3) := by decide +kernel
theorem dX12_lay_306 : decode cX12_lay 306 = .ok (.iload_n 1, 1) := by decide +kernel
theorem dX12_lay_307 : decode cX12_lay 307 = .ok (.iaload, 1) := by decide +kernel
theorem dX12_lay_308 : decode cX12_lay 308 = .ok (.iaload, 1) := by decide +kernel
theorem dX12_lay_309 : decode cX12_lay 309 = .ok (.ireturn, 1) := by decide +kernel
abbrev wcX12_lay : List Cond := .code yX12_lay cX12_lay 7 (some .int) :: wsL_law
def lX12_lay_7 : Nat → Nat → Int32 → Int32 → Int32 → hs_S → Option (hs_S)
  | 0, _, _, _, _, _ => none
  | n + 1, v0, v1, v2, v3, g =>
    if hs_kd g v0 = 10 then
    if ¬ (hs_R g v0 7) = 0 then
    if hs_kd g ((hs_R g v0 7) - 1) = 100 then
    if hs_in v1 (hs_ln g ((hs_R g v0 7) - 1)) = true then
    if (hs_I g ((hs_R g v0 7) - 1) v1.toNatClampNeg) ≤ v3 then (
      some g
    ) else (
      if ¬ (hs_R g v0 29) = 0 then
      if hs_kd g ((hs_R g v0 29) - 1) = 101 then
      if hs_in v3 (hs_ln g ((hs_R g v0 29) - 1)) = true then
      lX12_lay_7 n v0 v1 v2 (v3 + (1 : Int32)) (hs_wI g ((hs_R g v0 29) - 1) v3.toNatClampNeg (0 : Int32))
      else none else none else none
    )
    else none else none else none else none
theorem lX12_lay_7_s (n : Nat) (v0 : Nat) (v1 : Int32) (v2 : Int32) (v3 : Int32) (g : hs_S) : lX12_lay_7 (n + 1) v0 v1 v2 v3 g =
    if hs_kd g v0 = 10 then
    if ¬ (hs_R g v0 7) = 0 then
    if hs_kd g ((hs_R g v0 7) - 1) = 100 then
    if hs_in v1 (hs_ln g ((hs_R g v0 7) - 1)) = true then
    if (hs_I g ((hs_R g v0 7) - 1) v1.toNatClampNeg) ≤ v3 then (
      some g
    ) else (
      if ¬ (hs_R g v0 29) = 0 then
      if hs_kd g ((hs_R g v0 29) - 1) = 101 then
      if hs_in v3 (hs_ln g ((hs_R g v0 29) - 1)) = true then
      lX12_lay_7 n v0 v1 v2 (v3 + (1 : Int32)) (hs_wI g ((hs_R g v0 29) - 1) v3.toNatClampNeg (0 : Int32))
      else none else none else none
    )
    else none else none else none else none := rfl
def jX12_lay_174 (rec : Int32 → Int32 → hs_S → Option (Int32 × hs_S)) (v0 : Nat) (v1 : Int32) (v2 : Int32) (v5 : Int32) (v6 : Int32) (s0 : Int32) (s1 : Int32) (g : hs_S) : Option (Int32 × hs_S) :=
  hs_bd (fX12_size v6 g) fun r38 g37 =>
  rec (s1 + s0) (v5 + r38) g37
def jX12_lay_129 (rec : Int32 → Int32 → hs_S → Option (Int32 × hs_S)) (v0 : Nat) (v1 : Int32) (v2 : Int32) (v5 : Int32) (v6 : Int32) (s0 : Int32) (g : hs_S) : Option (Int32 × hs_S) :=
  if hs_kd g v0 = 10 then
  if ¬ (hs_R g v0 29) = 0 then
  if hs_kd g ((hs_R g v0 29) - 1) = 101 then
  if hs_in v5 (hs_ln g ((hs_R g v0 29) - 1)) = true then
  if (hs_I g ((hs_R g v0 29) - 1) v5.toNatClampNeg) = 0 then (
    jX12_lay_174 rec v0 v1 v2 v5 v6 (2 : Int32) s0 g
  ) else (
    jX12_lay_174 rec v0 v1 v2 v5 v6 (3 : Int32) s0 g
  )
  else none else none else none else none
def jX12_lay_169 (rec : Int32 → Int32 → hs_S → Option (Int32 × hs_S)) (v0 : Nat) (v1 : Int32) (v2 : Int32) (v5 : Int32) (v6 : Int32) (s0 : Int32) (g : hs_S) : Option (Int32 × hs_S) :=
  hs_bd (fX12_size v6 g) fun r44 g43 =>
  jX12_lay_174 rec v0 v1 v2 v5 v6 r44 s0 g43
def jX12_lay_98 (rec : Int32 → Int32 → hs_S → Option (Int32 × hs_S)) (v0 : Nat) (v1 : Int32) (v2 : Int32) (v5 : Int32) (v6 : Int32) (s0 : Int32) (s1 : Int32) (s2 : Int32) (g : hs_S) : Option (Int32 × hs_S) :=
  if hs_kd g v0 = 10 then
  if ¬ (hs_R g v0 28) = 0 then
  if hs_kd g ((hs_R g v0 28) - 1) = 100 then
  if hs_in v5 (hs_ln g ((hs_R g v0 28) - 1)) = true then
  if v6 = (167 : Int32) then (
    jX12_lay_129 rec v0 v1 v2 v5 v6 (s2 + (s1 + s0)) (hs_wI g ((hs_R g v0 28) - 1) v5.toNatClampNeg (s2 + (s1 + s0)))
  ) else (
    if v6 = (168 : Int32) then (
      jX12_lay_129 rec v0 v1 v2 v5 v6 (s2 + (s1 + s0)) (hs_wI g ((hs_R g v0 28) - 1) v5.toNatClampNeg (s2 + (s1 + s0)))
    ) else (
      hs_bd (fX12_isJump v6 (hs_wI g ((hs_R g v0 28) - 1) v5.toNatClampNeg (s2 + (s1 + s0)))) fun r41 g40 =>
      if r41 = 0 then (
        jX12_lay_169 rec v0 v1 v2 v5 v6 (s2 + (s1 + s0)) g40
      ) else (
        if hs_kd g40 v0 = 10 then
        if ¬ (hs_R g40 v0 29) = 0 then
        if hs_kd g40 ((hs_R g40 v0 29) - 1) = 101 then
        if hs_in v5 (hs_ln g40 ((hs_R g40 v0 29) - 1)) = true then
        if (hs_I g40 ((hs_R g40 v0 29) - 1) v5.toNatClampNeg) = 0 then (
          jX12_lay_169 rec v0 v1 v2 v5 v6 (s2 + (s1 + s0)) g40
        ) else (
          jX12_lay_174 rec v0 v1 v2 v5 v6 (5 : Int32) (s2 + (s1 + s0)) g40
        )
        else none else none else none else none
      )
    )
  )
  else none else none else none else none
def jX12_lay_97 (rec : Int32 → Int32 → hs_S → Option (Int32 × hs_S)) (v0 : Nat) (v1 : Int32) (v2 : Int32) (v5 : Int32) (v6 : Int32) (s0 : Int32) (s1 : Int32) (g : hs_S) : Option (Int32 × hs_S) :=
  jX12_lay_98 rec v0 v1 v2 v5 v6 (0 : Int32) s0 s1 g
def lX12_lay_42 : Nat → Nat → Int32 → Int32 → Int32 → Int32 → hs_S → Option (Int32 × hs_S)
  | 0, _, _, _, _, _, _ => none
  | n + 1, v0, v1, v2, v4, v5, g =>
    if hs_kd g v0 = 10 then
    if ¬ (hs_R g v0 7) = 0 then
    if hs_kd g ((hs_R g v0 7) - 1) = 100 then
    if hs_in v1 (hs_ln g ((hs_R g v0 7) - 1)) = true then
    if (hs_I g ((hs_R g v0 7) - 1) v1.toNatClampNeg) ≤ v5 then (
      some (v4, g)
    ) else (
      hs_bd (fX12_kindAt v0 v1 v5 g) fun r20 g19 =>
      if hs_kd g19 v0 = 10 then
      if ¬ (hs_R g19 v0 27) = 0 then
      if hs_kd g19 ((hs_R g19 v0 27) - 1) = 100 then
      if hs_in v5 (hs_ln g19 ((hs_R g19 v0 27) - 1)) = true then
      hs_bd (fX12_paidAt v0 v1 v5 v2 (hs_wI g19 ((hs_R g19 v0 27) - 1) v5.toNatClampNeg v4)) fun r27 g26 =>
      if v2 = 0 then (
        jX12_lay_97 (fun y0 y1 g => lX12_lay_42 n v0 v1 v2 y0 y1 g) v0 v1 v2 v5 r20 r27 v4 g26
      ) else (
        if r20 = (188 : Int32) then (
          jX12_lay_98 (fun y0 y1 g => lX12_lay_42 n v0 v1 v2 y0 y1 g) v0 v1 v2 v5 r20 (1 : Int32) r27 v4 g26
        ) else (
          jX12_lay_97 (fun y0 y1 g => lX12_lay_42 n v0 v1 v2 y0 y1 g) v0 v1 v2 v5 r20 r27 v4 g26
        )
      )
      else none else none else none else none
    )
    else none else none else none else none
theorem lX12_lay_42_s (n : Nat) (v0 : Nat) (v1 : Int32) (v2 : Int32) (v4 : Int32) (v5 : Int32) (g : hs_S) : lX12_lay_42 (n + 1) v0 v1 v2 v4 v5 g =
    if hs_kd g v0 = 10 then
    if ¬ (hs_R g v0 7) = 0 then
    if hs_kd g ((hs_R g v0 7) - 1) = 100 then
    if hs_in v1 (hs_ln g ((hs_R g v0 7) - 1)) = true then
    if (hs_I g ((hs_R g v0 7) - 1) v1.toNatClampNeg) ≤ v5 then (
      some (v4, g)
    ) else (
      hs_bd (fX12_kindAt v0 v1 v5 g) fun r20 g19 =>
      if hs_kd g19 v0 = 10 then
      if ¬ (hs_R g19 v0 27) = 0 then
      if hs_kd g19 ((hs_R g19 v0 27) - 1) = 100 then
      if hs_in v5 (hs_ln g19 ((hs_R g19 v0 27) - 1)) = true then
      hs_bd (fX12_paidAt v0 v1 v5 v2 (hs_wI g19 ((hs_R g19 v0 27) - 1) v5.toNatClampNeg v4)) fun r27 g26 =>
      if v2 = 0 then (
        jX12_lay_97 (fun y0 y1 g => lX12_lay_42 n v0 v1 v2 y0 y1 g) v0 v1 v2 v5 r20 r27 v4 g26
      ) else (
        if r20 = (188 : Int32) then (
          jX12_lay_98 (fun y0 y1 g => lX12_lay_42 n v0 v1 v2 y0 y1 g) v0 v1 v2 v5 r20 (1 : Int32) r27 v4 g26
        ) else (
          jX12_lay_97 (fun y0 y1 g => lX12_lay_42 n v0 v1 v2 y0 y1 g) v0 v1 v2 v5 r20 r27 v4 g26
        )
      )
      else none else none else none else none
    )
    else none else none else none else none := rfl
def jX12_lay_282 (rec : Int32 → Int32 → hs_S → Option (Int32 × hs_S)) (v0 : Nat) (v1 : Int32) (v2 : Int32) (v3 : Int32) (v5 : Int32) (v6 : Int32) (g : hs_S) : Option (Int32 × hs_S) :=
  hs_bd (fX12_size v6 g) fun r79 g78 =>
  rec v3 (v5 + r79) g78
def lX12_lay_208 : Nat → Nat → Int32 → Int32 → Int32 → Int32 → hs_S → Option (Int32 × hs_S)
  | 0, _, _, _, _, _, _ => none
  | n + 1, v0, v1, v2, v3, v5, g =>
    if hs_kd g v0 = 10 then
    if ¬ (hs_R g v0 7) = 0 then
    if hs_kd g ((hs_R g v0 7) - 1) = 100 then
    if hs_in v1 (hs_ln g ((hs_R g v0 7) - 1)) = true then
    if (hs_I g ((hs_R g v0 7) - 1) v1.toNatClampNeg) ≤ v5 then (
      some (v3, g)
    ) else (
      hs_bd (fX12_kindAt v0 v1 v5 g) fun r73 g72 =>
      hs_bd (fX12_isJump r73 g72) fun r76 g75 =>
      if r76 = 0 then (
        jX12_lay_282 (fun y0 y1 g => lX12_lay_208 n v0 v1 v2 y0 y1 g) v0 v1 v2 v3 v5 r73 g75
      ) else (
        if hs_kd g75 v0 = 10 then
        if ¬ (hs_R g75 v0 29) = 0 then
        if hs_kd g75 ((hs_R g75 v0 29) - 1) = 101 then
        if hs_in v5 (hs_ln g75 ((hs_R g75 v0 29) - 1)) = true then
        if (hs_I g75 ((hs_R g75 v0 29) - 1) v5.toNatClampNeg) = 0 then (
          if ¬ (hs_R g75 v0 27) = 0 then
          hs_bd (fX12_leads v0 v1 v5 g75) fun r87 g86 =>
          if hs_kd g86 ((hs_R g75 v0 27) - 1) = 100 then
          if hs_in r87 (hs_ln g86 ((hs_R g75 v0 27) - 1)) = true then
          if hs_kd g86 v0 = 10 then
          if ¬ (hs_R g86 v0 28) = 0 then
          if hs_kd g86 ((hs_R g86 v0 28) - 1) = 100 then
          if hs_in v5 (hs_ln g86 ((hs_R g86 v0 28) - 1)) = true then
          hs_bd (fX12_fits ((hs_I g86 ((hs_R g75 v0 27) - 1) r87.toNatClampNeg) - (hs_I g86 ((hs_R g86 v0 28) - 1) v5.toNatClampNeg)) g86) fun r96 g95 =>
          if r96 = 0 then (
            if hs_kd g95 v0 = 10 then
            if ¬ (hs_R g95 v0 29) = 0 then
            if hs_kd g95 ((hs_R g95 v0 29) - 1) = 101 then
            if hs_in v5 (hs_ln g95 ((hs_R g95 v0 29) - 1)) = true then
            jX12_lay_282 (fun y0 y1 g => lX12_lay_208 n v0 v1 v2 y0 y1 g) v0 v1 v2 (1 : Int32) v5 r73 (hs_wI g95 ((hs_R g95 v0 29) - 1) v5.toNatClampNeg (1 : Int32))
            else none else none else none else none
          ) else (
            jX12_lay_282 (fun y0 y1 g => lX12_lay_208 n v0 v1 v2 y0 y1 g) v0 v1 v2 v3 v5 r73 g95
          )
          else none else none else none else none else none else none else none
        ) else (
          jX12_lay_282 (fun y0 y1 g => lX12_lay_208 n v0 v1 v2 y0 y1 g) v0 v1 v2 v3 v5 r73 g75
        )
        else none else none else none else none
      )
    )
    else none else none else none else none
theorem lX12_lay_208_s (n : Nat) (v0 : Nat) (v1 : Int32) (v2 : Int32) (v3 : Int32) (v5 : Int32) (g : hs_S) : lX12_lay_208 (n + 1) v0 v1 v2 v3 v5 g =
    if hs_kd g v0 = 10 then
    if ¬ (hs_R g v0 7) = 0 then
    if hs_kd g ((hs_R g v0 7) - 1) = 100 then
    if hs_in v1 (hs_ln g ((hs_R g v0 7) - 1)) = true then
    if (hs_I g ((hs_R g v0 7) - 1) v1.toNatClampNeg) ≤ v5 then (
      some (v3, g)
    ) else (
      hs_bd (fX12_kindAt v0 v1 v5 g) fun r73 g72 =>
      hs_bd (fX12_isJump r73 g72) fun r76 g75 =>
      if r76 = 0 then (
        jX12_lay_282 (fun y0 y1 g => lX12_lay_208 n v0 v1 v2 y0 y1 g) v0 v1 v2 v3 v5 r73 g75
      ) else (
        if hs_kd g75 v0 = 10 then
        if ¬ (hs_R g75 v0 29) = 0 then
        if hs_kd g75 ((hs_R g75 v0 29) - 1) = 101 then
        if hs_in v5 (hs_ln g75 ((hs_R g75 v0 29) - 1)) = true then
        if (hs_I g75 ((hs_R g75 v0 29) - 1) v5.toNatClampNeg) = 0 then (
          if ¬ (hs_R g75 v0 27) = 0 then
          hs_bd (fX12_leads v0 v1 v5 g75) fun r87 g86 =>
          if hs_kd g86 ((hs_R g75 v0 27) - 1) = 100 then
          if hs_in r87 (hs_ln g86 ((hs_R g75 v0 27) - 1)) = true then
          if hs_kd g86 v0 = 10 then
          if ¬ (hs_R g86 v0 28) = 0 then
          if hs_kd g86 ((hs_R g86 v0 28) - 1) = 100 then
          if hs_in v5 (hs_ln g86 ((hs_R g86 v0 28) - 1)) = true then
          hs_bd (fX12_fits ((hs_I g86 ((hs_R g75 v0 27) - 1) r87.toNatClampNeg) - (hs_I g86 ((hs_R g86 v0 28) - 1) v5.toNatClampNeg)) g86) fun r96 g95 =>
          if r96 = 0 then (
            if hs_kd g95 v0 = 10 then
            if ¬ (hs_R g95 v0 29) = 0 then
            if hs_kd g95 ((hs_R g95 v0 29) - 1) = 101 then
            if hs_in v5 (hs_ln g95 ((hs_R g95 v0 29) - 1)) = true then
            jX12_lay_282 (fun y0 y1 g => lX12_lay_208 n v0 v1 v2 y0 y1 g) v0 v1 v2 (1 : Int32) v5 r73 (hs_wI g95 ((hs_R g95 v0 29) - 1) v5.toNatClampNeg (1 : Int32))
            else none else none else none else none
          ) else (
            jX12_lay_282 (fun y0 y1 g => lX12_lay_208 n v0 v1 v2 y0 y1 g) v0 v1 v2 v3 v5 r73 g95
          )
          else none else none else none else none else none else none else none
        ) else (
          jX12_lay_282 (fun y0 y1 g => lX12_lay_208 n v0 v1 v2 y0 y1 g) v0 v1 v2 v3 v5 r73 g75
        )
        else none else none else none else none
      )
    )
    else none else none else none else none := rfl
def lX12_lay_32 : Nat → Nat → Int32 → Int32 → Int32 → hs_S → Option (hs_S)
  | 0, _, _, _, _, _ => none
  | n + 1, v0, v1, v2, v3, g =>
    if v3 = 0 then (
      some g
    ) else (
      hs_bd (lX12_lay_42 hs_N v0 v1 v2 (0 : Int32) (0 : Int32) g) fun x50 g52 =>
      if hs_kd g52 v0 = 10 then
      if ¬ (hs_R g52 v0 27) = 0 then
      if ¬ (hs_R g52 v0 7) = 0 then
      if hs_kd g52 ((hs_R g52 v0 7) - 1) = 100 then
      if hs_in v1 (hs_ln g52 ((hs_R g52 v0 7) - 1)) = true then
      if hs_kd g52 ((hs_R g52 v0 27) - 1) = 100 then
      if hs_in (hs_I g52 ((hs_R g52 v0 7) - 1) v1.toNatClampNeg) (hs_ln g52 ((hs_R g52 v0 27) - 1)) = true then
      hs_bv (some (hs_wI g52 ((hs_R g52 v0 27) - 1) (hs_I g52 ((hs_R g52 v0 7) - 1) v1.toNatClampNeg).toNatClampNeg x50)) fun g61 =>
      hs_bd (lX12_lay_208 hs_N v0 v1 v2 (0 : Int32) (0 : Int32) g61) fun x102 g104 =>
      lX12_lay_32 n v0 v1 v2 x102 g104
      else none else none else none else none else none else none else none
    )
theorem lX12_lay_32_s (n : Nat) (v0 : Nat) (v1 : Int32) (v2 : Int32) (v3 : Int32) (g : hs_S) : lX12_lay_32 (n + 1) v0 v1 v2 v3 g =
    if v3 = 0 then (
      some g
    ) else (
      hs_bd (lX12_lay_42 hs_N v0 v1 v2 (0 : Int32) (0 : Int32) g) fun x50 g52 =>
      if hs_kd g52 v0 = 10 then
      if ¬ (hs_R g52 v0 27) = 0 then
      if ¬ (hs_R g52 v0 7) = 0 then
      if hs_kd g52 ((hs_R g52 v0 7) - 1) = 100 then
      if hs_in v1 (hs_ln g52 ((hs_R g52 v0 7) - 1)) = true then
      if hs_kd g52 ((hs_R g52 v0 27) - 1) = 100 then
      if hs_in (hs_I g52 ((hs_R g52 v0 7) - 1) v1.toNatClampNeg) (hs_ln g52 ((hs_R g52 v0 27) - 1)) = true then
      hs_bv (some (hs_wI g52 ((hs_R g52 v0 27) - 1) (hs_I g52 ((hs_R g52 v0 7) - 1) v1.toNatClampNeg).toNatClampNeg x50)) fun g61 =>
      hs_bd (lX12_lay_208 hs_N v0 v1 v2 (0 : Int32) (0 : Int32) g61) fun x102 g104 =>
      lX12_lay_32 n v0 v1 v2 x102 g104
      else none else none else none else none else none else none else none
    ) := rfl
def fX12_lay (v0 : Nat) (v1 : Int32) (v2 : Int32) (g : hs_S) : Option (Int32 × hs_S) :=
  if hs_kd g v0 = 10 then
  hs_bv (fX12_mark v0 v1 g) fun g2 =>
  hs_bv (lX12_lay_7 hs_N v0 v1 v2 (0 : Int32) g2) fun g13 =>
  hs_bv (lX12_lay_32 hs_N v0 v1 v2 (1 : Int32) g13) fun g107 =>
  if hs_kd g107 v0 = 10 then
  if ¬ (hs_R g107 v0 27) = 0 then
  if ¬ (hs_R g107 v0 7) = 0 then
  if hs_kd g107 ((hs_R g107 v0 7) - 1) = 100 then
  if hs_in v1 (hs_ln g107 ((hs_R g107 v0 7) - 1)) = true then
  if hs_kd g107 ((hs_R g107 v0 27) - 1) = 100 then
  if hs_in (hs_I g107 ((hs_R g107 v0 7) - 1) v1.toNatClampNeg) (hs_ln g107 ((hs_R g107 v0 27) - 1)) = true then
  some ((hs_I g107 ((hs_R g107 v0 27) - 1) (hs_I g107 ((hs_R g107 v0 7) - 1) v1.toNatClampNeg).toNatClampNeg), g107)
  else none else none else none else none else none else none else none else none
abbrev rmX12_lay : Room := { frames := 4, cells := 0, slots := 0, locals := 90 }
set_option maxHeartbeats 4000000 in
set_option maxRecDepth 100000 in
theorem wX12_lay_7 {p : Program} {l : Launch} {e : Env} {s : State} {m : MethodId} {args : Array Value} {below : List Frame} {meth : Method} {c : Code} {B : Nat} {D : va_G} {E : Nat → ClassId} (hX : hs_cx cX12_lay (some .int) 7 RX12 wcX12_lay p s m args meth c D E) {Q : State → Prop} {o : hs_S} {v0 : Nat} {v1 : Int32} {v2 : Int32} (hex0 : ∀ (H : Heap) (locs : List Loc) (ls : Array Slot), hs_P B D E (o) H → hs_Sx B s.heap H locs → lv_has ls 7 [(0, .ref (B + v0)), (1, .int v1), (2, .int v2)] → W p l e rmX12_lay s m args below meth c H locs 0 0 Q (F0 m 30 ls [])) : ∀ (n : Nat) (v3 : Int32) (g : hs_S), lX12_lay_7 n v0 v1 v2 v3 g = some o → ∀ (H : Heap) (locs : List Loc) (ls : Array Slot), hs_P B D E g H → hs_Sx B s.heap H locs → lv_has ls 7 [(0, .ref (B + v0)), (1, .int v1), (2, .int v2), (3, .int v3)] → W p l e rmX12_lay s m args below meth c H locs 0 0 Q (F0 m 7 ls []) := by
  obtain ⟨hx, hb, hr, hml, hown, hts, hlocks, hK⟩ := id hX
  intro n
  induction n with
  | zero =>
    intro v3 g hf
    cases hf
  | succ n ih =>
    intro v3 g hf H locs ls hP hS hl
    replace hf := (lX12_lay_7_s n v0 v1 v2 v3 g).symm.trans hf
    refine lv_iload_n hx hb dX12_lay_7 rfl (lv_at hl 3 rfl) ?_
    refine lv_aload_n hx hb dX12_lay_8 rfl (lv_at hl 0 rfl) ?_
    obtain ⟨h5, hf⟩ := hs_ck hf
    obtain ⟨h6, hf⟩ := hs_ck hf
    refine hs_getr (C := RX12) (T := TX12) (N := 48) hx hb hts (fun w h => List.mem_cons_of_mem _ (inlX12 w h)) hown hK.1 hP h5 (by decide) rfl 7 (by decide) (hts _ (List.mem_cons_of_mem _ wq125)) (fun _ h => h) rfl h6 dX12_lay_9 ?_
    refine lv_iload_n hx hb dX12_lay_12 rfl (lv_at hl 1 rfl) ?_
    obtain ⟨h7, hf⟩ := hs_ck hf
    obtain ⟨h8, hf⟩ := hs_ck hf
    refine hs_iald hx hb hK.1 hP h7 h8 dX12_lay_13 ?_
    refine lv_icmp_ge (tgt := 30) hx hb dX12_lay_14 (by decide) (fun hc => ?_) (fun hc => ?_)
    · replace hf := hs_t hf hc
      obtain rfl := Option.some.inj hf
      exact hex0 _ _ _ hP hS (lv_sub hl [0, 1, 2] rfl)
    · replace hf := hs_f hf hc
      refine lv_aload_n hx hb dX12_lay_17 rfl (lv_at hl 0 rfl) ?_
      obtain ⟨h9, hf⟩ := hs_ck hf
      refine hs_getr (C := RX12) (T := TX12) (N := 48) hx hb hts (fun w h => List.mem_cons_of_mem _ (inlX12 w h)) hown hK.1 hP h5 (by decide) rfl 29 (by decide) (hts _ (List.mem_cons_of_mem _ wq147)) (fun _ h => h) rfl h9 dX12_lay_18 ?_
      refine lv_iload_n hx hb dX12_lay_21 rfl (lv_at hl 3 rfl) ?_
      refine lv_iconst (v := 0) hx hb dX12_lay_22 (by decide) ?_
      obtain ⟨h10, hf⟩ := hs_ck hf
      obtain ⟨h11, hf⟩ := hs_ck hf
      refine hs_zast hx hb hK.1 hP hS h10 h11 (rfl) dX12_lay_23 (fun H locs hP hS => ?_)
      refine lv_iinc (v := (v3 + (1 : Int32))) (lv' := [(3, .int (v3 + (1 : Int32))), (0, .ref (B + v0)), (1, .int v1), (2, .int v2)]) hx hb dX12_lay_24 hl (k := 3) rfl (by rfl) (by decide) rfl (fun ls hl => ?_)
      refine lv_goto (tgt := 7) hx hb dX12_lay_27 (by decide) ?_
      exact ih _ _ hf _ _ _ hP hS (lv_sub hl [1, 2, 3, 0] rfl)

set_option maxHeartbeats 4000000 in
set_option maxRecDepth 100000 in
theorem wX12_lay_j174 {p : Program} {l : Launch} {e : Env} {s : State} {m : MethodId} {args : Array Value} {below : List Frame} {meth : Method} {c : Code} {B : Nat} {D : va_G} {E : Nat → ClassId} (hX : hs_cx cX12_lay (some .int) 7 RX12 wcX12_lay p s m args meth c D E) {Q : State → Prop} {o : Int32 × hs_S} {rec : Int32 → Int32 → hs_S → Option (Int32 × hs_S)} {v0 : Nat} {v1 : Int32} {v2 : Int32} {v5 : Int32} {v6 : Int32} {s0 : Int32} {s1 : Int32}  (hrec : ∀ (y0 : Int32) (y1 : Int32) (g : hs_S) (H : Heap) (locs : List Loc) (ls : Array Slot), rec y0 y1 g = some o → hs_P B D E g H → hs_Sx B s.heap H locs → lv_has ls 7 [(0, .ref (B + v0)), (1, .int v1), (2, .int v2), (4, .int y0), (5, .int y1)] → W p l e rmX12_lay s m args below meth c H locs 0 0 Q (F0 m 42 ls [])) (hex0 : ∀ (H : Heap) (locs : List Loc) (ls : Array Slot), hs_P B D E (o.2) H → hs_Sx B s.heap H locs → lv_has ls 7 [(0, .ref (B + v0)), (1, .int v1), (2, .int v2), (4, .int (o.1))] → W p l e rmX12_lay s m args below meth c H locs 0 0 Q (F0 m 190 ls [])) {g : hs_S} {H : Heap} {locs : List Loc} {ls : Array Slot} (hf : jX12_lay_174 rec v0 v1 v2 v5 v6 s0 s1 g = some o) (hP : hs_P B D E g H) (hS : hs_Sx B s.heap H locs) (hl : lv_has ls 7 [(0, .ref (B + v0)), (1, .int v1), (2, .int v2), (5, .int v5), (6, .int v6)]) : W p l e rmX12_lay s m args below meth c H locs 0 0 Q (F0 m 174 ls [.int s0, .int s1]) := by
  obtain ⟨hx, hb, hr, hml, hown, hts, hlocks, hK⟩ := id hX
  unfold jX12_lay_174 at hf
  refine lv_iadd hx hb dX12_lay_174 ?_
  refine lv_istore (lv' := [(4, .int (s1 + s0)), (0, .ref (B + v0)), (1, .int v1), (2, .int v2), (5, .int v5), (6, .int v6)]) hx hb dX12_lay_175 hl (by decide) rfl (fun ls hl => ?_)
  refine lv_iload hx hb dX12_lay_177 (lv_at hl 4 rfl) ?_
  refine lv_iload hx hb dX12_lay_179 (lv_at hl 5 rfl) ?_
  obtain ⟨r38, g37, h39, hf⟩ := hs_bd_some hf
  refine hs_calli (va_runS (As := [.int v6]) (rest := [.int v5]) ⟨hx, hb, hml, hown, hts⟩ (ctX12_size l B D E v6 g _ h39) (va_cwS 1 hts (hs_gS (fun _ h => List.mem_cons_of_mem _ h) wq423 wq424 wq5 wq425) rfl rfl rfl (by decide +kernel) ⟨Nat.le_of_ble_eq_true rfl, Nat.le_of_ble_eq_true rfl⟩) (hs_pre hP hK) rfl rfl hl.1 rfl (lv_room (Nat.le_of_ble_eq_true rfl)) dX12_lay_181 ⟨(Nat.le_of_ble_eq_true rfl), (Nat.le_of_ble_eq_true rfl)⟩) hS (fun H locs hP hS => ?_)
  refine lv_iadd hx hb dX12_lay_184 ?_
  refine lv_istore (lv' := [(5, .int (v5 + r38)), (4, .int (s1 + s0)), (0, .ref (B + v0)), (1, .int v1), (2, .int v2), (6, .int v6)]) hx hb dX12_lay_185 hl (by decide) rfl (fun ls hl => ?_)
  refine lv_goto (tgt := 42) hx hb dX12_lay_187 (by decide) ?_
  exact hrec _ _ _ _ _ _ hf hP hS (lv_sub hl [2, 3, 4, 1, 0] rfl)

set_option maxHeartbeats 4000000 in
set_option maxRecDepth 100000 in
theorem wX12_lay_j129 {p : Program} {l : Launch} {e : Env} {s : State} {m : MethodId} {args : Array Value} {below : List Frame} {meth : Method} {c : Code} {B : Nat} {D : va_G} {E : Nat → ClassId} (hX : hs_cx cX12_lay (some .int) 7 RX12 wcX12_lay p s m args meth c D E) {Q : State → Prop} {o : Int32 × hs_S} {rec : Int32 → Int32 → hs_S → Option (Int32 × hs_S)} {v0 : Nat} {v1 : Int32} {v2 : Int32} {v5 : Int32} {v6 : Int32} {s0 : Int32}  (hrec : ∀ (y0 : Int32) (y1 : Int32) (g : hs_S) (H : Heap) (locs : List Loc) (ls : Array Slot), rec y0 y1 g = some o → hs_P B D E g H → hs_Sx B s.heap H locs → lv_has ls 7 [(0, .ref (B + v0)), (1, .int v1), (2, .int v2), (4, .int y0), (5, .int y1)] → W p l e rmX12_lay s m args below meth c H locs 0 0 Q (F0 m 42 ls [])) (hex0 : ∀ (H : Heap) (locs : List Loc) (ls : Array Slot), hs_P B D E (o.2) H → hs_Sx B s.heap H locs → lv_has ls 7 [(0, .ref (B + v0)), (1, .int v1), (2, .int v2), (4, .int (o.1))] → W p l e rmX12_lay s m args below meth c H locs 0 0 Q (F0 m 190 ls [])) {g : hs_S} {H : Heap} {locs : List Loc} {ls : Array Slot} (hf : jX12_lay_129 rec v0 v1 v2 v5 v6 s0 g = some o) (hP : hs_P B D E g H) (hS : hs_Sx B s.heap H locs) (hl : lv_has ls 7 [(0, .ref (B + v0)), (1, .int v1), (2, .int v2), (5, .int v5), (6, .int v6)]) : W p l e rmX12_lay s m args below meth c H locs 0 0 Q (F0 m 129 ls [.int s0]) := by
  obtain ⟨hx, hb, hr, hml, hown, hts, hlocks, hK⟩ := id hX
  unfold jX12_lay_129 at hf
  refine lv_aload_n hx hb dX12_lay_129 rfl (lv_at hl 0 rfl) ?_
  obtain ⟨h33, hf⟩ := hs_ck hf
  obtain ⟨h34, hf⟩ := hs_ck hf
  refine hs_getr (C := RX12) (T := TX12) (N := 48) hx hb hts (fun w h => List.mem_cons_of_mem _ (inlX12 w h)) hown hK.1 hP h33 (by decide) rfl 29 (by decide) (hts _ (List.mem_cons_of_mem _ wq147)) (fun _ h => h) rfl h34 dX12_lay_130 ?_
  refine lv_iload hx hb dX12_lay_133 (lv_at hl 3 rfl) ?_
  obtain ⟨h35, hf⟩ := hs_ck hf
  obtain ⟨h36, hf⟩ := hs_ck hf
  refine hs_zald hx hb hK.1 hP h35 h36 dX12_lay_135 ?_
  refine lv_if_eq (tgt := 143) hx hb dX12_lay_136 (by decide) (fun hc => ?_) (fun hc => ?_)
  · replace hf := hs_t hf hc
    refine lv_iconst (v := 2) hx hb dX12_lay_143 (by decide) ?_
    refine lv_goto (tgt := 174) hx hb dX12_lay_144 (by decide) ?_
    exact wX12_lay_j174 hX hrec hex0 hf hP hS (lv_sub hl [0, 1, 2, 3, 4] rfl)
  · replace hf := hs_f hf hc
    refine lv_iconst (v := 3) hx hb dX12_lay_139 (by decide) ?_
    refine lv_goto (tgt := 174) hx hb dX12_lay_140 (by decide) ?_
    exact wX12_lay_j174 hX hrec hex0 hf hP hS (lv_sub hl [0, 1, 2, 3, 4] rfl)

set_option maxHeartbeats 4000000 in
set_option maxRecDepth 100000 in
theorem wX12_lay_j169 {p : Program} {l : Launch} {e : Env} {s : State} {m : MethodId} {args : Array Value} {below : List Frame} {meth : Method} {c : Code} {B : Nat} {D : va_G} {E : Nat → ClassId} (hX : hs_cx cX12_lay (some .int) 7 RX12 wcX12_lay p s m args meth c D E) {Q : State → Prop} {o : Int32 × hs_S} {rec : Int32 → Int32 → hs_S → Option (Int32 × hs_S)} {v0 : Nat} {v1 : Int32} {v2 : Int32} {v5 : Int32} {v6 : Int32} {s0 : Int32}  (hrec : ∀ (y0 : Int32) (y1 : Int32) (g : hs_S) (H : Heap) (locs : List Loc) (ls : Array Slot), rec y0 y1 g = some o → hs_P B D E g H → hs_Sx B s.heap H locs → lv_has ls 7 [(0, .ref (B + v0)), (1, .int v1), (2, .int v2), (4, .int y0), (5, .int y1)] → W p l e rmX12_lay s m args below meth c H locs 0 0 Q (F0 m 42 ls [])) (hex0 : ∀ (H : Heap) (locs : List Loc) (ls : Array Slot), hs_P B D E (o.2) H → hs_Sx B s.heap H locs → lv_has ls 7 [(0, .ref (B + v0)), (1, .int v1), (2, .int v2), (4, .int (o.1))] → W p l e rmX12_lay s m args below meth c H locs 0 0 Q (F0 m 190 ls [])) {g : hs_S} {H : Heap} {locs : List Loc} {ls : Array Slot} (hf : jX12_lay_169 rec v0 v1 v2 v5 v6 s0 g = some o) (hP : hs_P B D E g H) (hS : hs_Sx B s.heap H locs) (hl : lv_has ls 7 [(0, .ref (B + v0)), (1, .int v1), (2, .int v2), (5, .int v5), (6, .int v6)]) : W p l e rmX12_lay s m args below meth c H locs 0 0 Q (F0 m 169 ls [.int s0]) := by
  obtain ⟨hx, hb, hr, hml, hown, hts, hlocks, hK⟩ := id hX
  unfold jX12_lay_169 at hf
  refine lv_iload hx hb dX12_lay_169 (lv_at hl 4 rfl) ?_
  obtain ⟨r44, g43, h45, hf⟩ := hs_bd_some hf
  refine hs_calli (va_runS (As := [.int v6]) (rest := [.int s0]) ⟨hx, hb, hml, hown, hts⟩ (ctX12_size l B D E v6 g _ h45) (va_cwS 1 hts (hs_gS (fun _ h => List.mem_cons_of_mem _ h) wq423 wq424 wq5 wq425) rfl rfl rfl (by decide +kernel) ⟨Nat.le_of_ble_eq_true rfl, Nat.le_of_ble_eq_true rfl⟩) (hs_pre hP hK) rfl rfl hl.1 rfl (lv_room (Nat.le_of_ble_eq_true rfl)) dX12_lay_171 ⟨(Nat.le_of_ble_eq_true rfl), (Nat.le_of_ble_eq_true rfl)⟩) hS (fun H locs hP hS => ?_)
  exact wX12_lay_j174 hX hrec hex0 hf hP hS (lv_sub hl [0, 1, 2, 3, 4] rfl)

set_option maxHeartbeats 4000000 in
set_option maxRecDepth 100000 in
theorem wX12_lay_j98 {p : Program} {l : Launch} {e : Env} {s : State} {m : MethodId} {args : Array Value} {below : List Frame} {meth : Method} {c : Code} {B : Nat} {D : va_G} {E : Nat → ClassId} (hX : hs_cx cX12_lay (some .int) 7 RX12 wcX12_lay p s m args meth c D E) {Q : State → Prop} {o : Int32 × hs_S} {rec : Int32 → Int32 → hs_S → Option (Int32 × hs_S)} {v0 : Nat} {v1 : Int32} {v2 : Int32} {v5 : Int32} {v6 : Int32} {s0 : Int32} {s1 : Int32} {s2 : Int32}  (hrec : ∀ (y0 : Int32) (y1 : Int32) (g : hs_S) (H : Heap) (locs : List Loc) (ls : Array Slot), rec y0 y1 g = some o → hs_P B D E g H → hs_Sx B s.heap H locs → lv_has ls 7 [(0, .ref (B + v0)), (1, .int v1), (2, .int v2), (4, .int y0), (5, .int y1)] → W p l e rmX12_lay s m args below meth c H locs 0 0 Q (F0 m 42 ls [])) (hex0 : ∀ (H : Heap) (locs : List Loc) (ls : Array Slot), hs_P B D E (o.2) H → hs_Sx B s.heap H locs → lv_has ls 7 [(0, .ref (B + v0)), (1, .int v1), (2, .int v2), (4, .int (o.1))] → W p l e rmX12_lay s m args below meth c H locs 0 0 Q (F0 m 190 ls [])) {g : hs_S} {H : Heap} {locs : List Loc} {ls : Array Slot} (hf : jX12_lay_98 rec v0 v1 v2 v5 v6 s0 s1 s2 g = some o) (hP : hs_P B D E g H) (hS : hs_Sx B s.heap H locs) (hl : lv_has ls 7 [(0, .ref (B + v0)), (1, .int v1), (2, .int v2), (5, .int v5), (6, .int v6)]) : W p l e rmX12_lay s m args below meth c H locs 0 0 Q (F0 m 98 ls [.int s0, .int s1, .int s2]) := by
  obtain ⟨hx, hb, hr, hml, hown, hts, hlocks, hK⟩ := id hX
  unfold jX12_lay_98 at hf
  refine lv_iadd hx hb dX12_lay_98 ?_
  refine lv_iadd hx hb dX12_lay_99 ?_
  refine lv_istore (lv' := [(4, .int (s2 + (s1 + s0))), (0, .ref (B + v0)), (1, .int v1), (2, .int v2), (5, .int v5), (6, .int v6)]) hx hb dX12_lay_100 hl (by decide) rfl (fun ls hl => ?_)
  refine lv_aload_n hx hb dX12_lay_102 rfl (lv_at hl 1 rfl) ?_
  obtain ⟨h29, hf⟩ := hs_ck hf
  obtain ⟨h30, hf⟩ := hs_ck hf
  refine hs_getr (C := RX12) (T := TX12) (N := 48) hx hb hts (fun w h => List.mem_cons_of_mem _ (inlX12 w h)) hown hK.1 hP h29 (by decide) rfl 28 (by decide) (hts _ (List.mem_cons_of_mem _ wq146)) (fun _ h => h) rfl h30 dX12_lay_103 ?_
  refine lv_iload hx hb dX12_lay_106 (lv_at hl 4 rfl) ?_
  refine lv_iload hx hb dX12_lay_108 (lv_at hl 0 rfl) ?_
  obtain ⟨h31, hf⟩ := hs_ck hf
  obtain ⟨h32, hf⟩ := hs_ck hf
  refine hs_iast hx hb hK.1 hP hS h31 h32 dX12_lay_110 (fun H locs hP hS => ?_)
  refine lv_iload hx hb dX12_lay_111 (lv_at hl 0 rfl) ?_
  refine lv_iload hx hb dX12_lay_113 (lv_at hl 5 rfl) ?_
  refine lv_sipush (v := 167) hx hb dX12_lay_115 (by decide) ?_
  refine lv_icmp_eq (tgt := 129) hx hb dX12_lay_118 (by decide) (fun hc => ?_) (fun hc => ?_)
  · replace hf := hs_t hf hc
    exact wX12_lay_j129 hX hrec hex0 hf hP hS (lv_sub hl [1, 2, 3, 4, 5] rfl)
  · replace hf := hs_f hf hc
    refine lv_iload hx hb dX12_lay_121 (lv_at hl 5 rfl) ?_
    refine lv_sipush (v := 168) hx hb dX12_lay_123 (by decide) ?_
    refine lv_icmp_ne (tgt := 147) hx hb dX12_lay_126 (by decide) (fun hc => ?_) (fun hc => ?_)
    · replace hf := hs_f hf hc
      refine lv_iload hx hb dX12_lay_147 (lv_at hl 5 rfl) ?_
      obtain ⟨r41, g40, h42, hf⟩ := hs_bd_some hf
      refine hs_calli (va_runS (As := [.int v6]) (rest := [.int (s2 + (s1 + s0))]) ⟨hx, hb, hml, hown, hts⟩ (ctX12_isJump l B D E v6 (hs_wI g ((hs_R g v0 28) - 1) v5.toNatClampNeg (s2 + (s1 + s0))) _ h42) (va_cwS 1 hts (hs_gS (fun _ h => List.mem_cons_of_mem _ h) wq430 wq431 wq5 wq432) rfl rfl rfl (by decide +kernel) ⟨Nat.le_of_ble_eq_true rfl, Nat.le_of_ble_eq_true rfl⟩) (hs_pre hP hK) rfl rfl hl.1 rfl (lv_room (Nat.le_of_ble_eq_true rfl)) dX12_lay_149 ⟨(Nat.le_of_ble_eq_true rfl), (Nat.le_of_ble_eq_true rfl)⟩) hS (fun H locs hP hS => ?_)
      refine lv_if_eq (tgt := 169) hx hb dX12_lay_152 (by decide) (fun hc => ?_) (fun hc => ?_)
      · replace hf := hs_t hf hc
        exact wX12_lay_j169 hX hrec hex0 hf hP hS (lv_sub hl [1, 2, 3, 4, 5] rfl)
      · replace hf := hs_f hf hc
        refine lv_aload_n hx hb dX12_lay_155 rfl (lv_at hl 1 rfl) ?_
        obtain ⟨h46, hf⟩ := hs_ck hf
        obtain ⟨h47, hf⟩ := hs_ck hf
        refine hs_getr (C := RX12) (T := TX12) (N := 48) hx hb hts (fun w h => List.mem_cons_of_mem _ (inlX12 w h)) hown hK.1 hP h46 (by decide) rfl 29 (by decide) (hts _ (List.mem_cons_of_mem _ wq147)) (fun _ h => h) rfl h47 dX12_lay_156 ?_
        refine lv_iload hx hb dX12_lay_159 (lv_at hl 4 rfl) ?_
        obtain ⟨h48, hf⟩ := hs_ck hf
        obtain ⟨h49, hf⟩ := hs_ck hf
        refine hs_zald hx hb hK.1 hP h48 h49 dX12_lay_161 ?_
        refine lv_if_eq (tgt := 169) hx hb dX12_lay_162 (by decide) (fun hc => ?_) (fun hc => ?_)
        · replace hf := hs_t hf hc
          exact wX12_lay_j169 hX hrec hex0 hf hP hS (lv_sub hl [1, 2, 3, 4, 5] rfl)
        · replace hf := hs_f hf hc
          refine lv_iconst (v := 5) hx hb dX12_lay_165 (by decide) ?_
          refine lv_goto (tgt := 174) hx hb dX12_lay_166 (by decide) ?_
          exact wX12_lay_j174 hX hrec hex0 hf hP hS (lv_sub hl [1, 2, 3, 4, 5] rfl)
    · replace hf := hs_t hf hc
      exact wX12_lay_j129 hX hrec hex0 hf hP hS (lv_sub hl [1, 2, 3, 4, 5] rfl)

set_option maxHeartbeats 4000000 in
set_option maxRecDepth 100000 in
theorem wX12_lay_j97 {p : Program} {l : Launch} {e : Env} {s : State} {m : MethodId} {args : Array Value} {below : List Frame} {meth : Method} {c : Code} {B : Nat} {D : va_G} {E : Nat → ClassId} (hX : hs_cx cX12_lay (some .int) 7 RX12 wcX12_lay p s m args meth c D E) {Q : State → Prop} {o : Int32 × hs_S} {rec : Int32 → Int32 → hs_S → Option (Int32 × hs_S)} {v0 : Nat} {v1 : Int32} {v2 : Int32} {v5 : Int32} {v6 : Int32} {s0 : Int32} {s1 : Int32}  (hrec : ∀ (y0 : Int32) (y1 : Int32) (g : hs_S) (H : Heap) (locs : List Loc) (ls : Array Slot), rec y0 y1 g = some o → hs_P B D E g H → hs_Sx B s.heap H locs → lv_has ls 7 [(0, .ref (B + v0)), (1, .int v1), (2, .int v2), (4, .int y0), (5, .int y1)] → W p l e rmX12_lay s m args below meth c H locs 0 0 Q (F0 m 42 ls [])) (hex0 : ∀ (H : Heap) (locs : List Loc) (ls : Array Slot), hs_P B D E (o.2) H → hs_Sx B s.heap H locs → lv_has ls 7 [(0, .ref (B + v0)), (1, .int v1), (2, .int v2), (4, .int (o.1))] → W p l e rmX12_lay s m args below meth c H locs 0 0 Q (F0 m 190 ls [])) {g : hs_S} {H : Heap} {locs : List Loc} {ls : Array Slot} (hf : jX12_lay_97 rec v0 v1 v2 v5 v6 s0 s1 g = some o) (hP : hs_P B D E g H) (hS : hs_Sx B s.heap H locs) (hl : lv_has ls 7 [(0, .ref (B + v0)), (1, .int v1), (2, .int v2), (5, .int v5), (6, .int v6)]) : W p l e rmX12_lay s m args below meth c H locs 0 0 Q (F0 m 97 ls [.int s0, .int s1]) := by
  obtain ⟨hx, hb, hr, hml, hown, hts, hlocks, hK⟩ := id hX
  unfold jX12_lay_97 at hf
  refine lv_iconst (v := 0) hx hb dX12_lay_97 (by decide) ?_
  exact wX12_lay_j98 hX hrec hex0 hf hP hS (lv_sub hl [0, 1, 2, 3, 4] rfl)

set_option maxHeartbeats 4000000 in
set_option maxRecDepth 100000 in
theorem wX12_lay_42 {p : Program} {l : Launch} {e : Env} {s : State} {m : MethodId} {args : Array Value} {below : List Frame} {meth : Method} {c : Code} {B : Nat} {D : va_G} {E : Nat → ClassId} (hX : hs_cx cX12_lay (some .int) 7 RX12 wcX12_lay p s m args meth c D E) {Q : State → Prop} {o : Int32 × hs_S} {v0 : Nat} {v1 : Int32} {v2 : Int32} (hex0 : ∀ (H : Heap) (locs : List Loc) (ls : Array Slot), hs_P B D E (o.2) H → hs_Sx B s.heap H locs → lv_has ls 7 [(0, .ref (B + v0)), (1, .int v1), (2, .int v2), (4, .int (o.1))] → W p l e rmX12_lay s m args below meth c H locs 0 0 Q (F0 m 190 ls [])) : ∀ (n : Nat) (v4 : Int32) (v5 : Int32) (g : hs_S), lX12_lay_42 n v0 v1 v2 v4 v5 g = some o → ∀ (H : Heap) (locs : List Loc) (ls : Array Slot), hs_P B D E g H → hs_Sx B s.heap H locs → lv_has ls 7 [(0, .ref (B + v0)), (1, .int v1), (2, .int v2), (4, .int v4), (5, .int v5)] → W p l e rmX12_lay s m args below meth c H locs 0 0 Q (F0 m 42 ls []) := by
  obtain ⟨hx, hb, hr, hml, hown, hts, hlocks, hK⟩ := id hX
  intro n
  induction n with
  | zero =>
    intro v4 v5 g hf
    cases hf
  | succ n ih =>
    intro v4 v5 g hf H locs ls hP hS hl
    replace hf := (lX12_lay_42_s n v0 v1 v2 v4 v5 g).symm.trans hf
    refine lv_iload hx hb dX12_lay_42 (lv_at hl 4 rfl) ?_
    refine lv_aload_n hx hb dX12_lay_44 rfl (lv_at hl 0 rfl) ?_
    obtain ⟨h15, hf⟩ := hs_ck hf
    obtain ⟨h16, hf⟩ := hs_ck hf
    refine hs_getr (C := RX12) (T := TX12) (N := 48) hx hb hts (fun w h => List.mem_cons_of_mem _ (inlX12 w h)) hown hK.1 hP h15 (by decide) rfl 7 (by decide) (hts _ (List.mem_cons_of_mem _ wq125)) (fun _ h => h) rfl h16 dX12_lay_45 ?_
    refine lv_iload_n hx hb dX12_lay_48 rfl (lv_at hl 1 rfl) ?_
    obtain ⟨h17, hf⟩ := hs_ck hf
    obtain ⟨h18, hf⟩ := hs_ck hf
    refine hs_iald hx hb hK.1 hP h17 h18 dX12_lay_49 ?_
    refine lv_icmp_ge (tgt := 190) hx hb dX12_lay_50 (by decide) (fun hc => ?_) (fun hc => ?_)
    · replace hf := hs_t hf hc
      obtain rfl := Option.some.inj hf
      exact hex0 _ _ _ hP hS (lv_sub hl [0, 1, 2, 3] rfl)
    · replace hf := hs_f hf hc
      refine lv_aload_n hx hb dX12_lay_53 rfl (lv_at hl 0 rfl) ?_
      refine lv_iload_n hx hb dX12_lay_54 rfl (lv_at hl 1 rfl) ?_
      refine lv_iload hx hb dX12_lay_55 (lv_at hl 4 rfl) ?_
      obtain ⟨r20, g19, h21, hf⟩ := hs_bd_some hf
      refine hs_calli (va_runV (As := [.int v1, .int v5]) (rest := []) ⟨hx, hb, hml, hown, hts⟩ (ctX12_kindAt l B D E v0 v1 v5 g _ h21) (cwV 2 hts (hs_gV (fun _ h => List.mem_cons_of_mem _ h) wq604 wq605 wq606 wq5 wq607) rfl rfl rfl (by decide +kernel) ⟨Nat.le_of_ble_eq_true rfl, Nat.le_of_ble_eq_true rfl⟩) (hs_preV (r := (RX12, TX12, 48)) hP hK h15 (by decide) rfl) rfl rfl hl.1 rfl (lv_room (Nat.le_of_ble_eq_true rfl)) dX12_lay_57 ⟨(Nat.le_of_ble_eq_true rfl), (Nat.le_of_ble_eq_true rfl)⟩) hS (fun H locs hP hS => ?_)
      refine lv_istore (lv' := [(6, .int r20), (0, .ref (B + v0)), (1, .int v1), (2, .int v2), (4, .int v4), (5, .int v5)]) hx hb dX12_lay_60 hl (by decide) rfl (fun ls hl => ?_)
      refine lv_aload_n hx hb dX12_lay_62 rfl (lv_at hl 1 rfl) ?_
      obtain ⟨h22, hf⟩ := hs_ck hf
      obtain ⟨h23, hf⟩ := hs_ck hf
      refine hs_getr (C := RX12) (T := TX12) (N := 48) hx hb hts (fun w h => List.mem_cons_of_mem _ (inlX12 w h)) hown hK.1 hP h22 (by decide) rfl 27 (by decide) (hts _ (List.mem_cons_of_mem _ wq145)) (fun _ h => h) rfl h23 dX12_lay_63 ?_
      refine lv_iload hx hb dX12_lay_66 (lv_at hl 5 rfl) ?_
      refine lv_iload hx hb dX12_lay_68 (lv_at hl 4 rfl) ?_
      obtain ⟨h24, hf⟩ := hs_ck hf
      obtain ⟨h25, hf⟩ := hs_ck hf
      refine hs_iast hx hb hK.1 hP hS h24 h25 dX12_lay_70 (fun H locs hP hS => ?_)
      refine lv_iload hx hb dX12_lay_71 (lv_at hl 4 rfl) ?_
      refine lv_aload_n hx hb dX12_lay_73 rfl (lv_at hl 1 rfl) ?_
      refine lv_iload_n hx hb dX12_lay_74 rfl (lv_at hl 2 rfl) ?_
      refine lv_iload hx hb dX12_lay_75 (lv_at hl 5 rfl) ?_
      refine lv_iload_n hx hb dX12_lay_77 rfl (lv_at hl 3 rfl) ?_
      obtain ⟨r27, g26, h28, hf⟩ := hs_bd_some hf
      refine hs_calli (va_runV (As := [.int v1, .int v5, .int v2]) (rest := [.int v4]) ⟨hx, hb, hml, hown, hts⟩ (ctX12_paidAt l B D E v0 v1 v5 v2 (hs_wI g19 ((hs_R g19 v0 27) - 1) v5.toNatClampNeg v4) _ h28) (cwV 3 hts (hs_gV (fun _ h => List.mem_cons_of_mem _ h) wq612 wq613 wq614 wq5 wq615) rfl rfl rfl (by decide +kernel) ⟨Nat.le_of_ble_eq_true rfl, Nat.le_of_ble_eq_true rfl⟩) (hs_preV (r := (RX12, TX12, 48)) hP hK h22 (by decide) rfl) rfl rfl hl.1 rfl (lv_room (Nat.le_of_ble_eq_true rfl)) dX12_lay_78 ⟨(Nat.le_of_ble_eq_true rfl), (Nat.le_of_ble_eq_true rfl)⟩) hS (fun H locs hP hS => ?_)
      refine lv_iload_n hx hb dX12_lay_81 rfl (lv_at hl 3 rfl) ?_
      refine lv_if_eq (tgt := 97) hx hb dX12_lay_82 (by decide) (fun hc => ?_) (fun hc => ?_)
      · replace hf := hs_t hf hc
        exact wX12_lay_j97 hX (fun z0 z1 g H locs ls hf hP hS hl => ih z0 z1 g hf H locs ls hP hS hl) hex0 hf hP hS (lv_sub hl [1, 2, 3, 5, 0] rfl)
      · replace hf := hs_f hf hc
        refine lv_iload hx hb dX12_lay_85 (lv_at hl 0 rfl) ?_
        refine lv_sipush (v := 188) hx hb dX12_lay_87 (by decide) ?_
        refine lv_icmp_ne (tgt := 97) hx hb dX12_lay_90 (by decide) (fun hc => ?_) (fun hc => ?_)
        · replace hf := hs_f hf hc
          exact wX12_lay_j97 hX (fun z0 z1 g H locs ls hf hP hS hl => ih z0 z1 g hf H locs ls hP hS hl) hex0 hf hP hS (lv_sub hl [1, 2, 3, 5, 0] rfl)
        · replace hf := hs_t hf hc
          refine lv_iconst (v := 1) hx hb dX12_lay_93 (by decide) ?_
          refine lv_goto (tgt := 98) hx hb dX12_lay_94 (by decide) ?_
          exact wX12_lay_j98 hX (fun z0 z1 g H locs ls hf hP hS hl => ih z0 z1 g hf H locs ls hP hS hl) hex0 hf hP hS (lv_sub hl [1, 2, 3, 5, 0] rfl)

set_option maxHeartbeats 4000000 in
set_option maxRecDepth 100000 in
theorem wX12_lay_j282 {p : Program} {l : Launch} {e : Env} {s : State} {m : MethodId} {args : Array Value} {below : List Frame} {meth : Method} {c : Code} {B : Nat} {D : va_G} {E : Nat → ClassId} (hX : hs_cx cX12_lay (some .int) 7 RX12 wcX12_lay p s m args meth c D E) {Q : State → Prop} {o : Int32 × hs_S} {rec : Int32 → Int32 → hs_S → Option (Int32 × hs_S)} {v0 : Nat} {v1 : Int32} {v2 : Int32} {v3 : Int32} {v5 : Int32} {v6 : Int32}  (hrec : ∀ (y0 : Int32) (y1 : Int32) (g : hs_S) (H : Heap) (locs : List Loc) (ls : Array Slot), rec y0 y1 g = some o → hs_P B D E g H → hs_Sx B s.heap H locs → lv_has ls 7 [(0, .ref (B + v0)), (1, .int v1), (2, .int v2), (3, .int y0), (5, .int y1)] → W p l e rmX12_lay s m args below meth c H locs 0 0 Q (F0 m 208 ls [])) (hex0 : ∀ (H : Heap) (locs : List Loc) (ls : Array Slot), hs_P B D E (o.2) H → hs_Sx B s.heap H locs → lv_has ls 7 [(0, .ref (B + v0)), (1, .int v1), (2, .int v2), (3, .int (o.1))] → W p l e rmX12_lay s m args below meth c H locs 0 0 Q (F0 m 295 ls [])) {g : hs_S} {H : Heap} {locs : List Loc} {ls : Array Slot} (hf : jX12_lay_282 rec v0 v1 v2 v3 v5 v6 g = some o) (hP : hs_P B D E g H) (hS : hs_Sx B s.heap H locs) (hl : lv_has ls 7 [(0, .ref (B + v0)), (1, .int v1), (2, .int v2), (3, .int v3), (5, .int v5), (6, .int v6)]) : W p l e rmX12_lay s m args below meth c H locs 0 0 Q (F0 m 282 ls []) := by
  obtain ⟨hx, hb, hr, hml, hown, hts, hlocks, hK⟩ := id hX
  unfold jX12_lay_282 at hf
  refine lv_iload hx hb dX12_lay_282 (lv_at hl 4 rfl) ?_
  refine lv_iload hx hb dX12_lay_284 (lv_at hl 5 rfl) ?_
  obtain ⟨r79, g78, h80, hf⟩ := hs_bd_some hf
  refine hs_calli (va_runS (As := [.int v6]) (rest := [.int v5]) ⟨hx, hb, hml, hown, hts⟩ (ctX12_size l B D E v6 g _ h80) (va_cwS 1 hts (hs_gS (fun _ h => List.mem_cons_of_mem _ h) wq423 wq424 wq5 wq425) rfl rfl rfl (by decide +kernel) ⟨Nat.le_of_ble_eq_true rfl, Nat.le_of_ble_eq_true rfl⟩) (hs_pre hP hK) rfl rfl hl.1 rfl (lv_room (Nat.le_of_ble_eq_true rfl)) dX12_lay_286 ⟨(Nat.le_of_ble_eq_true rfl), (Nat.le_of_ble_eq_true rfl)⟩) hS (fun H locs hP hS => ?_)
  refine lv_iadd hx hb dX12_lay_289 ?_
  refine lv_istore (lv' := [(5, .int (v5 + r79)), (0, .ref (B + v0)), (1, .int v1), (2, .int v2), (3, .int v3), (6, .int v6)]) hx hb dX12_lay_290 hl (by decide) rfl (fun ls hl => ?_)
  refine lv_goto (tgt := 208) hx hb dX12_lay_292 (by decide) ?_
  exact hrec _ _ _ _ _ _ hf hP hS (lv_sub hl [1, 2, 3, 4, 0] rfl)

set_option maxHeartbeats 4000000 in
set_option maxRecDepth 100000 in
theorem wX12_lay_208 {p : Program} {l : Launch} {e : Env} {s : State} {m : MethodId} {args : Array Value} {below : List Frame} {meth : Method} {c : Code} {B : Nat} {D : va_G} {E : Nat → ClassId} (hX : hs_cx cX12_lay (some .int) 7 RX12 wcX12_lay p s m args meth c D E) {Q : State → Prop} {o : Int32 × hs_S} {v0 : Nat} {v1 : Int32} {v2 : Int32} (hex0 : ∀ (H : Heap) (locs : List Loc) (ls : Array Slot), hs_P B D E (o.2) H → hs_Sx B s.heap H locs → lv_has ls 7 [(0, .ref (B + v0)), (1, .int v1), (2, .int v2), (3, .int (o.1))] → W p l e rmX12_lay s m args below meth c H locs 0 0 Q (F0 m 295 ls [])) : ∀ (n : Nat) (v3 : Int32) (v5 : Int32) (g : hs_S), lX12_lay_208 n v0 v1 v2 v3 v5 g = some o → ∀ (H : Heap) (locs : List Loc) (ls : Array Slot), hs_P B D E g H → hs_Sx B s.heap H locs → lv_has ls 7 [(0, .ref (B + v0)), (1, .int v1), (2, .int v2), (3, .int v3), (5, .int v5)] → W p l e rmX12_lay s m args below meth c H locs 0 0 Q (F0 m 208 ls []) := by
  obtain ⟨hx, hb, hr, hml, hown, hts, hlocks, hK⟩ := id hX
  intro n
  induction n with
  | zero =>
    intro v3 v5 g hf
    cases hf
  | succ n ih =>
    intro v3 v5 g hf H locs ls hP hS hl
    replace hf := (lX12_lay_208_s n v0 v1 v2 v3 v5 g).symm.trans hf
    refine lv_iload hx hb dX12_lay_208 (lv_at hl 4 rfl) ?_
    refine lv_aload_n hx hb dX12_lay_210 rfl (lv_at hl 0 rfl) ?_
    obtain ⟨h68, hf⟩ := hs_ck hf
    obtain ⟨h69, hf⟩ := hs_ck hf
    refine hs_getr (C := RX12) (T := TX12) (N := 48) hx hb hts (fun w h => List.mem_cons_of_mem _ (inlX12 w h)) hown hK.1 hP h68 (by decide) rfl 7 (by decide) (hts _ (List.mem_cons_of_mem _ wq125)) (fun _ h => h) rfl h69 dX12_lay_211 ?_
    refine lv_iload_n hx hb dX12_lay_214 rfl (lv_at hl 1 rfl) ?_
    obtain ⟨h70, hf⟩ := hs_ck hf
    obtain ⟨h71, hf⟩ := hs_ck hf
    refine hs_iald hx hb hK.1 hP h70 h71 dX12_lay_215 ?_
    refine lv_icmp_ge (tgt := 295) hx hb dX12_lay_216 (by decide) (fun hc => ?_) (fun hc => ?_)
    · replace hf := hs_t hf hc
      obtain rfl := Option.some.inj hf
      exact hex0 _ _ _ hP hS (lv_sub hl [0, 1, 2, 3] rfl)
    · replace hf := hs_f hf hc
      refine lv_aload_n hx hb dX12_lay_219 rfl (lv_at hl 0 rfl) ?_
      refine lv_iload_n hx hb dX12_lay_220 rfl (lv_at hl 1 rfl) ?_
      refine lv_iload hx hb dX12_lay_221 (lv_at hl 4 rfl) ?_
      obtain ⟨r73, g72, h74, hf⟩ := hs_bd_some hf
      refine hs_calli (va_runV (As := [.int v1, .int v5]) (rest := []) ⟨hx, hb, hml, hown, hts⟩ (ctX12_kindAt l B D E v0 v1 v5 g _ h74) (cwV 2 hts (hs_gV (fun _ h => List.mem_cons_of_mem _ h) wq604 wq605 wq606 wq5 wq607) rfl rfl rfl (by decide +kernel) ⟨Nat.le_of_ble_eq_true rfl, Nat.le_of_ble_eq_true rfl⟩) (hs_preV (r := (RX12, TX12, 48)) hP hK h68 (by decide) rfl) rfl rfl hl.1 rfl (lv_room (Nat.le_of_ble_eq_true rfl)) dX12_lay_223 ⟨(Nat.le_of_ble_eq_true rfl), (Nat.le_of_ble_eq_true rfl)⟩) hS (fun H locs hP hS => ?_)
      refine lv_istore (lv' := [(6, .int r73), (0, .ref (B + v0)), (1, .int v1), (2, .int v2), (3, .int v3), (5, .int v5)]) hx hb dX12_lay_226 hl (by decide) rfl (fun ls hl => ?_)
      refine lv_iload hx hb dX12_lay_228 (lv_at hl 0 rfl) ?_
      obtain ⟨r76, g75, h77, hf⟩ := hs_bd_some hf
      refine hs_calli (va_runS (As := [.int r73]) (rest := []) ⟨hx, hb, hml, hown, hts⟩ (ctX12_isJump l B D E r73 g72 _ h77) (va_cwS 1 hts (hs_gS (fun _ h => List.mem_cons_of_mem _ h) wq430 wq431 wq5 wq432) rfl rfl rfl (by decide +kernel) ⟨Nat.le_of_ble_eq_true rfl, Nat.le_of_ble_eq_true rfl⟩) (hs_pre hP hK) rfl rfl hl.1 rfl (lv_room (Nat.le_of_ble_eq_true rfl)) dX12_lay_230 ⟨(Nat.le_of_ble_eq_true rfl), (Nat.le_of_ble_eq_true rfl)⟩) hS (fun H locs hP hS => ?_)
      refine lv_if_eq (tgt := 282) hx hb dX12_lay_233 (by decide) (fun hc => ?_) (fun hc => ?_)
      · replace hf := hs_t hf hc
        exact wX12_lay_j282 hX (fun z0 z1 g H locs ls hf hP hS hl => ih z0 z1 g hf H locs ls hP hS hl) hex0 hf hP hS (lv_sub hl [1, 2, 3, 4, 5, 0] rfl)
      · replace hf := hs_f hf hc
        refine lv_aload_n hx hb dX12_lay_236 rfl (lv_at hl 1 rfl) ?_
        obtain ⟨h81, hf⟩ := hs_ck hf
        obtain ⟨h82, hf⟩ := hs_ck hf
        refine hs_getr (C := RX12) (T := TX12) (N := 48) hx hb hts (fun w h => List.mem_cons_of_mem _ (inlX12 w h)) hown hK.1 hP h81 (by decide) rfl 29 (by decide) (hts _ (List.mem_cons_of_mem _ wq147)) (fun _ h => h) rfl h82 dX12_lay_237 ?_
        refine lv_iload hx hb dX12_lay_240 (lv_at hl 5 rfl) ?_
        obtain ⟨h83, hf⟩ := hs_ck hf
        obtain ⟨h84, hf⟩ := hs_ck hf
        refine hs_zald hx hb hK.1 hP h83 h84 dX12_lay_242 ?_
        refine lv_if_ne (tgt := 282) hx hb dX12_lay_243 (by decide) (fun hc => ?_) (fun hc => ?_)
        · replace hf := hs_f hf hc
          exact wX12_lay_j282 hX (fun z0 z1 g H locs ls hf hP hS hl => ih z0 z1 g hf H locs ls hP hS hl) hex0 hf hP hS (lv_sub hl [1, 2, 3, 4, 5, 0] rfl)
        · replace hf := hs_t hf hc
          refine lv_aload_n hx hb dX12_lay_246 rfl (lv_at hl 1 rfl) ?_
          obtain ⟨h85, hf⟩ := hs_ck hf
          refine hs_getr (C := RX12) (T := TX12) (N := 48) hx hb hts (fun w h => List.mem_cons_of_mem _ (inlX12 w h)) hown hK.1 hP h81 (by decide) rfl 27 (by decide) (hts _ (List.mem_cons_of_mem _ wq145)) (fun _ h => h) rfl h85 dX12_lay_247 ?_
          refine lv_aload_n hx hb dX12_lay_250 rfl (lv_at hl 1 rfl) ?_
          refine lv_iload_n hx hb dX12_lay_251 rfl (lv_at hl 2 rfl) ?_
          refine lv_iload hx hb dX12_lay_252 (lv_at hl 5 rfl) ?_
          obtain ⟨r87, g86, h88, hf⟩ := hs_bd_some hf
          refine hs_calli (va_runV (As := [.int v1, .int v5]) (rest := [.ref (B + ((hs_R g75 v0 27) - 1))]) ⟨hx, hb, hml, hown, hts⟩ (ctX12_leads l B D E v0 v1 v5 g75 _ h88) (cwV 2 hts (hs_gV (fun _ h => List.mem_cons_of_mem _ h) wq608 wq609 wq610 wq5 wq611) rfl rfl rfl (by decide +kernel) ⟨Nat.le_of_ble_eq_true rfl, Nat.le_of_ble_eq_true rfl⟩) (hs_preV (r := (RX12, TX12, 48)) hP hK h81 (by decide) rfl) rfl rfl hl.1 rfl (lv_room (Nat.le_of_ble_eq_true rfl)) dX12_lay_254 ⟨(Nat.le_of_ble_eq_true rfl), (Nat.le_of_ble_eq_true rfl)⟩) hS (fun H locs hP hS => ?_)
          obtain ⟨h89, hf⟩ := hs_ck hf
          obtain ⟨h90, hf⟩ := hs_ck hf
          refine hs_iald hx hb hK.1 hP h89 h90 dX12_lay_257 ?_
          refine lv_aload_n hx hb dX12_lay_258 rfl (lv_at hl 1 rfl) ?_
          obtain ⟨h91, hf⟩ := hs_ck hf
          obtain ⟨h92, hf⟩ := hs_ck hf
          refine hs_getr (C := RX12) (T := TX12) (N := 48) hx hb hts (fun w h => List.mem_cons_of_mem _ (inlX12 w h)) hown hK.1 hP h91 (by decide) rfl 28 (by decide) (hts _ (List.mem_cons_of_mem _ wq146)) (fun _ h => h) rfl h92 dX12_lay_259 ?_
          refine lv_iload hx hb dX12_lay_262 (lv_at hl 5 rfl) ?_
          obtain ⟨h93, hf⟩ := hs_ck hf
          obtain ⟨h94, hf⟩ := hs_ck hf
          refine hs_iald hx hb hK.1 hP h93 h94 dX12_lay_264 ?_
          refine lv_isub hx hb dX12_lay_265 ?_
          obtain ⟨r96, g95, h97, hf⟩ := hs_bd_some hf
          refine hs_calli (va_runS (As := [.int ((hs_I g86 ((hs_R g75 v0 27) - 1) r87.toNatClampNeg) - (hs_I g86 ((hs_R g86 v0 28) - 1) v5.toNatClampNeg))]) (rest := []) ⟨hx, hb, hml, hown, hts⟩ (ctX12_fits l B D E ((hs_I g86 ((hs_R g75 v0 27) - 1) r87.toNatClampNeg) - (hs_I g86 ((hs_R g86 v0 28) - 1) v5.toNatClampNeg)) g86 _ h97) (va_cwS 1 hts (hs_gS (fun _ h => List.mem_cons_of_mem _ h) wq620 wq621 wq5 wq622) rfl rfl rfl (by decide +kernel) ⟨Nat.le_of_ble_eq_true rfl, Nat.le_of_ble_eq_true rfl⟩) (hs_pre hP hK) rfl rfl hl.1 rfl (lv_room (Nat.le_of_ble_eq_true rfl)) dX12_lay_266 ⟨(Nat.le_of_ble_eq_true rfl), (Nat.le_of_ble_eq_true rfl)⟩) hS (fun H locs hP hS => ?_)
          refine lv_if_ne (tgt := 282) hx hb dX12_lay_269 (by decide) (fun hc => ?_) (fun hc => ?_)
          · replace hf := hs_f hf hc
            exact wX12_lay_j282 hX (fun z0 z1 g H locs ls hf hP hS hl => ih z0 z1 g hf H locs ls hP hS hl) hex0 hf hP hS (lv_sub hl [1, 2, 3, 4, 5, 0] rfl)
          · replace hf := hs_t hf hc
            refine lv_aload_n hx hb dX12_lay_272 rfl (lv_at hl 1 rfl) ?_
            obtain ⟨h98, hf⟩ := hs_ck hf
            obtain ⟨h99, hf⟩ := hs_ck hf
            refine hs_getr (C := RX12) (T := TX12) (N := 48) hx hb hts (fun w h => List.mem_cons_of_mem _ (inlX12 w h)) hown hK.1 hP h98 (by decide) rfl 29 (by decide) (hts _ (List.mem_cons_of_mem _ wq147)) (fun _ h => h) rfl h99 dX12_lay_273 ?_
            refine lv_iload hx hb dX12_lay_276 (lv_at hl 5 rfl) ?_
            refine lv_iconst (v := 1) hx hb dX12_lay_278 (by decide) ?_
            obtain ⟨h100, hf⟩ := hs_ck hf
            obtain ⟨h101, hf⟩ := hs_ck hf
            refine hs_zast hx hb hK.1 hP hS h100 h101 (rfl) dX12_lay_279 (fun H locs hP hS => ?_)
            refine lv_iconst (v := 1) hx hb dX12_lay_280 (by decide) ?_
            refine lv_istore_n (lv' := [(3, .int (1 : Int32)), (6, .int r73), (0, .ref (B + v0)), (1, .int v1), (2, .int v2), (5, .int v5)]) hx hb dX12_lay_281 rfl hl (by decide) rfl (fun ls hl => ?_)
            exact wX12_lay_j282 hX (fun z0 z1 g H locs ls hf hP hS hl => ih z0 z1 g hf H locs ls hP hS hl) hex0 hf hP hS (lv_sub hl [2, 3, 4, 0, 5, 1] rfl)

set_option maxHeartbeats 4000000 in
set_option maxRecDepth 100000 in
theorem wX12_lay_32 {p : Program} {l : Launch} {e : Env} {s : State} {m : MethodId} {args : Array Value} {below : List Frame} {meth : Method} {c : Code} {B : Nat} {D : va_G} {E : Nat → ClassId} (hX : hs_cx cX12_lay (some .int) 7 RX12 wcX12_lay p s m args meth c D E) {Q : State → Prop} {o : hs_S} {v0 : Nat} {v1 : Int32} {v2 : Int32} (hex0 : ∀ (H : Heap) (locs : List Loc) (ls : Array Slot), hs_P B D E (o) H → hs_Sx B s.heap H locs → lv_has ls 7 [(0, .ref (B + v0)), (1, .int v1)] → W p l e rmX12_lay s m args below meth c H locs 0 0 Q (F0 m 298 ls [])) : ∀ (n : Nat) (v3 : Int32) (g : hs_S), lX12_lay_32 n v0 v1 v2 v3 g = some o → ∀ (H : Heap) (locs : List Loc) (ls : Array Slot), hs_P B D E g H → hs_Sx B s.heap H locs → lv_has ls 7 [(0, .ref (B + v0)), (1, .int v1), (2, .int v2), (3, .int v3)] → W p l e rmX12_lay s m args below meth c H locs 0 0 Q (F0 m 32 ls []) := by
  obtain ⟨hx, hb, hr, hml, hown, hts, hlocks, hK⟩ := id hX
  intro n
  induction n with
  | zero =>
    intro v3 g hf
    cases hf
  | succ n ih =>
    intro v3 g hf H locs ls hP hS hl
    replace hf := (lX12_lay_32_s n v0 v1 v2 v3 g).symm.trans hf
    refine lv_iload_n hx hb dX12_lay_32 rfl (lv_at hl 3 rfl) ?_
    refine lv_if_eq (tgt := 298) hx hb dX12_lay_33 (by decide) (fun hc => ?_) (fun hc => ?_)
    · replace hf := hs_t hf hc
      obtain rfl := Option.some.inj hf
      exact hex0 _ _ _ hP hS (lv_sub hl [0, 1] rfl)
    · replace hf := hs_f hf hc
      refine lv_iconst (v := 0) hx hb dX12_lay_36 (by decide) ?_
      refine lv_istore (lv' := [(4, .int (0 : Int32)), (0, .ref (B + v0)), (1, .int v1), (2, .int v2), (3, .int v3)]) hx hb dX12_lay_37 hl (by decide) rfl (fun ls hl => ?_)
      refine lv_iconst (v := 0) hx hb dX12_lay_39 (by decide) ?_
      refine lv_istore (lv' := [(5, .int (0 : Int32)), (4, .int (0 : Int32)), (0, .ref (B + v0)), (1, .int v1), (2, .int v2), (3, .int v3)]) hx hb dX12_lay_40 hl (by decide) rfl (fun ls hl => ?_)
      obtain ⟨x50, g52, h53, hf⟩ := hs_bd_some hf
      refine wX12_lay_42 hX (fun H locs ls hP hS hl => ?_) hs_N _ _ _ h53 _ _ _ hP hS (lv_sub hl [2, 3, 4, 1, 0] rfl)
      refine lv_aload_n hx hb dX12_lay_190 rfl (lv_at hl 0 rfl) ?_
      obtain ⟨h54, hf⟩ := hs_ck hf
      obtain ⟨h55, hf⟩ := hs_ck hf
      refine hs_getr (C := RX12) (T := TX12) (N := 48) hx hb hts (fun w h => List.mem_cons_of_mem _ (inlX12 w h)) hown hK.1 hP h54 (by decide) rfl 27 (by decide) (hts _ (List.mem_cons_of_mem _ wq145)) (fun _ h => h) rfl h55 dX12_lay_191 ?_
      refine lv_aload_n hx hb dX12_lay_194 rfl (lv_at hl 0 rfl) ?_
      obtain ⟨h56, hf⟩ := hs_ck hf
      refine hs_getr (C := RX12) (T := TX12) (N := 48) hx hb hts (fun w h => List.mem_cons_of_mem _ (inlX12 w h)) hown hK.1 hP h54 (by decide) rfl 7 (by decide) (hts _ (List.mem_cons_of_mem _ wq125)) (fun _ h => h) rfl h56 dX12_lay_195 ?_
      refine lv_iload_n hx hb dX12_lay_198 rfl (lv_at hl 1 rfl) ?_
      obtain ⟨h57, hf⟩ := hs_ck hf
      obtain ⟨h58, hf⟩ := hs_ck hf
      refine hs_iald hx hb hK.1 hP h57 h58 dX12_lay_199 ?_
      refine lv_iload hx hb dX12_lay_200 (lv_at hl 3 rfl) ?_
      obtain ⟨h59, hf⟩ := hs_ck hf
      obtain ⟨h60, hf⟩ := hs_ck hf
      refine hs_iast hx hb hK.1 hP hS h59 h60 dX12_lay_202 (fun H locs hP hS => ?_)
      obtain ⟨g61, e62, hf⟩ := hs_bv_some hf
      replace e62 := Option.some.inj e62
      rw [e62] at hP
      have h63 : hs_kd g61 v0 = 10 := by rw [← e62]; exact h54
      have h64 : hs_kd g61 ((hs_R g52 v0 7) - 1) = 100 := by rw [← e62]; exact h57
      have h65 : hs_in v1 (hs_ln g61 ((hs_R g52 v0 7) - 1)) = true := by rw [← e62]; exact h58
      have h66 : hs_kd g61 ((hs_R g52 v0 27) - 1) = 100 := by rw [← e62]; exact h59
      have h67 : hs_in (hs_I g52 ((hs_R g52 v0 7) - 1) v1.toNatClampNeg) (hs_ln g61 ((hs_R g52 v0 27) - 1)) = true := by rw [← e62]; exact h60
      refine lv_iconst (v := 0) hx hb dX12_lay_203 (by decide) ?_
      refine lv_istore_n (lv' := [(3, .int (0 : Int32)), (0, .ref (B + v0)), (1, .int v1), (2, .int v2), (4, .int x50)]) hx hb dX12_lay_204 rfl hl (by decide) rfl (fun ls hl => ?_)
      refine lv_iconst (v := 0) hx hb dX12_lay_205 (by decide) ?_
      refine lv_istore (lv' := [(5, .int (0 : Int32)), (3, .int (0 : Int32)), (0, .ref (B + v0)), (1, .int v1), (2, .int v2), (4, .int x50)]) hx hb dX12_lay_206 hl (by decide) rfl (fun ls hl => ?_)
      obtain ⟨x102, g104, h105, hf⟩ := hs_bd_some hf
      refine wX12_lay_208 hX (fun H locs ls hP hS hl => ?_) hs_N _ _ _ h105 _ _ _ hP hS (lv_sub hl [2, 3, 4, 1, 0] rfl)
      refine lv_goto (tgt := 32) hx hb dX12_lay_295 (by decide) ?_
      exact ih _ _ hf _ _ _ hP hS (lv_sub hl [0, 1, 2, 3] rfl)

set_option maxHeartbeats 4000000 in
set_option maxRecDepth 100000 in
theorem ctX12_lay (l : Launch) (B : Nat) (D : va_G) (E : Nat → ClassId) (v0 : Nat) (v1 : Int32) (v2 : Int32) (g : hs_S) (o : Int32 × hs_S) (hf : fX12_lay v0 v1 v2 g = some o) : Met l yX12_lay wcX12_lay rmX12_lay (hs_Pc B D E g [.ref (B + v0), .int v1, .int v2]) (hs_Qi B D E o) (0) (0) (hs_F B) := by
  refine Met.ofW (cc := cX12_lay) (maxL := 7) (ret := (some .int)) (by decide) rfl ?_
  intro p e s m args below meth c s₁ Bd hml hv
  obtain ⟨rfl, hP, hK⟩ := hv
  have hx := Bd.exec
  have hb := Bd.bytes
  have hr := Bd.returns
  have hts := atoms_spec (ws := wcX12_lay) Bd.pre
  have hown : s.vm.findClass RX12 = some m.cls := findClass_of_methodNamed Bd.named
  have hlocks := Bd.notSynchronized
  have hS : hs_Sx B s.heap s.heap [] := va_S.rf
  have hX : hs_cx cX12_lay (some .int) 7 RX12 wcX12_lay p s m (List.toArray [.ref (B + v0), .int v1, .int v2]) meth c D E := ⟨hx, hb, hr, hml, hown, hts, hlocks, hK⟩
  have hl := lv_entry ([.ref (B + v0), .int v1, .int v2]) (n := 7) (Nat.le_of_ble_eq_true rfl)
  rw [lg_entry_eq]
  generalize (lg_sl ([.ref (B + v0), .int v1, .int v2]) ++ List.replicate (7 - (lg_sl ([.ref (B + v0), .int v1, .int v2])).length) Slot.unset).toArray = ls at hl ⊢
  have hl : lv_has ls 7 [(0, .ref (B + v0)), (1, .int v1), (2, .int v2)] := hl
  have hP : hs_P B D E g s.heap := hP
  unfold fX12_lay at hf
  refine lv_aload_n hx hb dX12_lay_0 rfl (lv_at hl 0 rfl) ?_
  refine lv_iload_n hx hb dX12_lay_1 rfl (lv_at hl 1 rfl) ?_
  obtain ⟨h1, hf⟩ := hs_ck hf
  obtain ⟨g2, h4, hf⟩ := hs_bv_some hf
  refine hs_callv (va_runV (As := [.int v1]) (rest := []) ⟨hx, hb, hml, hown, hts⟩ (ctX12_mark l B D E v0 v1 g _ h4) (cwV 1 hts (hs_gV (fun _ h => List.mem_cons_of_mem _ h) wq600 wq601 wq602 wq5 wq603) rfl rfl rfl (by decide +kernel) ⟨Nat.le_of_ble_eq_true rfl, Nat.le_of_ble_eq_true rfl⟩) (hs_preV (r := (RX12, TX12, 48)) hP hK h1 (by decide) rfl) rfl rfl hl.1 rfl (lv_room (Nat.le_of_ble_eq_true rfl)) dX12_lay_2 ⟨(Nat.le_of_ble_eq_true rfl), (Nat.le_of_ble_eq_true rfl)⟩) hS (fun H locs hP hS => ?_)
  refine lv_iconst (v := 0) hx hb dX12_lay_5 (by decide) ?_
  refine lv_istore_n (lv' := [(3, .int (0 : Int32)), (0, .ref (B + v0)), (1, .int v1), (2, .int v2)]) hx hb dX12_lay_6 rfl hl (by decide) rfl (fun ls hl => ?_)
  obtain ⟨g13, h14, hf⟩ := hs_bv_some hf
  refine wX12_lay_7 hX (fun H locs ls hP hS hl => ?_) hs_N _ _ h14 _ _ _ hP hS (lv_sub hl [1, 2, 3, 0] rfl)
  refine lv_iconst (v := 1) hx hb dX12_lay_30 (by decide) ?_
  refine lv_istore_n (lv' := [(3, .int (1 : Int32)), (0, .ref (B + v0)), (1, .int v1), (2, .int v2)]) hx hb dX12_lay_31 rfl hl (by decide) rfl (fun ls hl => ?_)
  obtain ⟨g107, h108, hf⟩ := hs_bv_some hf
  refine wX12_lay_32 hX (fun H locs ls hP hS hl => ?_) hs_N _ _ h108 _ _ _ hP hS (lv_sub hl [1, 2, 3, 0] rfl)
  refine lv_aload_n hx hb dX12_lay_298 rfl (lv_at hl 0 rfl) ?_
  obtain ⟨h109, hf⟩ := hs_ck hf
  obtain ⟨h110, hf⟩ := hs_ck hf
  refine hs_getr (C := RX12) (T := TX12) (N := 48) hx hb hts (fun w h => List.mem_cons_of_mem _ (inlX12 w h)) hown hK.1 hP h109 (by decide) rfl 27 (by decide) (hts _ (List.mem_cons_of_mem _ wq145)) (fun _ h => h) rfl h110 dX12_lay_299 ?_
  refine lv_aload_n hx hb dX12_lay_302 rfl (lv_at hl 0 rfl) ?_
  obtain ⟨h111, hf⟩ := hs_ck hf
  refine hs_getr (C := RX12) (T := TX12) (N := 48) hx hb hts (fun w h => List.mem_cons_of_mem _ (inlX12 w h)) hown hK.1 hP h109 (by decide) rfl 7 (by decide) (hts _ (List.mem_cons_of_mem _ wq125)) (fun _ h => h) rfl h111 dX12_lay_303 ?_
  refine lv_iload_n hx hb dX12_lay_306 rfl (lv_at hl 1 rfl) ?_
  obtain ⟨h112, hf⟩ := hs_ck hf
  obtain ⟨h113, hf⟩ := hs_ck hf
  refine hs_iald hx hb hK.1 hP h112 h113 dX12_lay_307 ?_
  obtain ⟨h114, hf⟩ := hs_ck hf
  obtain ⟨h115, hf⟩ := hs_ck hf
  refine hs_iald hx hb hK.1 hP h114 h115 dX12_lay_308 ?_
  exact hs_iret hx hb hr hlocks rfl hK hP hS hf dX12_lay_309

theorem dX12_putJump_0 : decode cX12_putJump 0 = .ok (.aload_n 0, 1) := by decide +kernel
theorem dX12_putJump_1 : decode cX12_putJump 1 = .ok (.iload_n 1, 1) := by decide +kernel
theorem dX12_putJump_2 : decode cX12_putJump 2 = .ok (.iload_n 2, 1) := by decide +kernel
theorem dX12_putJump_3 : decode cX12_putJump 3 = .ok (.invokevirtual 201, 3) := by decide +kernel
theorem dX12_putJump_6 : decode cX12_putJump 6 = .ok (.istore 4, 2) := by decide +kernel
theorem dX12_putJump_8 : decode cX12_putJump 8 = .ok (.iload_n 3, 1) := by decide +kernel
theorem dX12_putJump_9 : decode cX12_putJump 9 = .ok (.istore 5, 2) := by decide +kernel
theorem dX12_putJump_11 : decode cX12_putJump 11 = .ok (.aload_n 0, 1) := by decide +kernel
theorem dX12_putJump_12 : decode cX12_putJump 12 = .ok (.getfield 81, 3) := by decide +kernel
theorem dX12_putJump_15 : decode cX12_putJump 15 = .ok (.aload_n 0, 1) := by decide +kernel
theorem dX12_putJump_16 : decode cX12_putJump 16 = .ok (.iload_n 1, 1) := by decide +kernel
theorem dX12_putJump_17 : decode cX12_putJump 17 = .ok (.iload_n 2, 1) := by decide +kernel
theorem dX12_putJump_18 : decode cX12_putJump 18 = .ok (.invokevirtual 204, 3) := by decide +kernel
theorem dX12_putJump_21 : decode cX12_putJump 21 = .ok (.iaload, 1) := by decide +kernel
theorem dX12_putJump_22 : decode cX12_putJump 22 = .ok (.iload 5, 2) := by decide +kernel
theorem dX12_putJump_24 : decode cX12_putJump 24 = .ok (.isub, 1) := by decide +kernel
theorem dX12_putJump_25 : decode cX12_putJump 25 = .ok (.istore 6, 2) := by decide +kernel
theorem dX12_putJump_27 : decode cX12_putJump 27 = .ok (.iload 4, 2) := by decide +kernel
theorem dX12_putJump_29 : decode cX12_putJump 29 = .ok (.sipush 167, 3) := by decide +kernel
theorem dX12_putJump_32 : decode cX12_putJump 32 = .ok (.if_icmp .ge 7, 3) := by decide +kernel
theorem dX12_putJump_35 : decode cX12_putJump 35 = .ok (.iconst 1, 1) := by decide +kernel
theorem dX12_putJump_36 : decode cX12_putJump 36 = .ok (.goto 4, 3) := by decide +kernel
theorem dX12_putJump_39 : decode cX12_putJump 39 = .ok (.iconst 0, 1) := by decide +kernel
theorem dX12_putJump_40 : decode cX12_putJump 40 = .ok (.istore 7, 2) := by decide +kernel
theorem dX12_putJump_42 : decode cX12_putJump 42 = .ok (.aload_n 0, 1) := by decide +kernel
theorem dX12_putJump_43 : decode cX12_putJump 43 = .ok (.getfield 87, 3) := by decide +kernel
theorem dX12_putJump_46 : decode cX12_putJump 46 = .ok (.iload_n 2, 1) := by decide +kernel
theorem dX12_putJump_47 : decode cX12_putJump 47 = .ok (.baload, 1) := by decide +kernel
theorem dX12_putJump_48 : decode cX12_putJump 48 = .ok (.ifCond .ne 39, 3) := by decide +kernel
theorem dX12_putJump_51 : decode cX12_putJump 51 = .ok (.aload_n 0, 1) := by decide +kernel
theorem dX12_putJump_52 : decode cX12_putJump 52 = .ok (.getfield 90, 3) := by decide +kernel
theorem dX12_putJump_55 : decode cX12_putJump 55 = .ok (.iload 5, 2) := by decide +kernel
theorem dX12_putJump_57 : decode cX12_putJump 57 = .ok (.iload 7, 2) := by decide +kernel
theorem dX12_putJump_59 : decode cX12_putJump 59 = .ok (.ifCond .eq 8, 3) := by decide +kernel
theorem dX12_putJump_62 : decode cX12_putJump 62 = .ok (.iload 4, 2) := by decide +kernel
theorem dX12_putJump_64 : decode cX12_putJump 64 = .ok (.goto 6, 3) := by decide +kernel
theorem dX12_putJump_67 : decode cX12_putJump 67 = .ok (.sipush 167, 3) := by decide +kernel
theorem dX12_putJump_70 : decode cX12_putJump 70 = .ok (.iastore, 1) := by decide +kernel
theorem dX12_putJump_71 : decode cX12_putJump 71 = .ok (.aload_n 0, 1) := by decide +kernel
theorem dX12_putJump_72 : decode cX12_putJump 72 = .ok (.getfield 90, 3) := by decide +kernel
theorem dX12_putJump_75 : decode cX12_putJump 75 = .ok (.iload 5, 2) := by decide +kernel
theorem dX12_putJump_77 : decode cX12_putJump 77 = .ok (.iconst 1, 1) := by decide +kernel
theorem dX12_putJump_78 : decode cX12_putJump 78 = .ok (.iadd, 1) := by decide +kernel
theorem dX12_putJump_79 : decode cX12_putJump 79 = .ok (.iload 6, 2) := by decide +kernel
theorem dX12_putJump_81 : decode cX12_putJump 81 = .ok (.sipush 255, 3) := by decide +kernel
theorem dX12_putJump_84 : decode cX12_putJump 84 = .ok (.iand, 1) := by decide +kernel
theorem dX12_putJump_85 : decode cX12_putJump 85 = .ok (.iastore, 1) := by decide +kernel
theorem dX12_putJump_86 : decode cX12_putJump 86 = .ok (.return_, 1) := by decide +kernel
theorem dX12_putJump_87 : decode cX12_putJump 87 = .ok (.iload 7, 2) := by decide +kernel
theorem dX12_putJump_89 : decode cX12_putJump 89 = .ok (.ifCond .eq 55, 3) := by decide +kernel
theorem dX12_putJump_92 : decode cX12_putJump 92 = .ok (.aload_n 0, 1) := by decide +kernel
theorem dX12_putJump_93 : decode cX12_putJump 93 = .ok (.getfield 90, 3) := by decide +kernel
theorem dX12_putJump_96 : decode cX12_putJump 96 = .ok (.iload 5, 2) := by decide +kernel
theorem dX12_putJump_98 : decode cX12_putJump 98 = .ok (.iload 4, 2) := by decide +kernel
theorem dX12_putJump_100 : decode cX12_putJump 100 = .ok (.iconst 2, 1) := by decide +kernel
theorem dX12_putJump_101 : decode cX12_putJump 101 = .ok (.irem, 1) := by decide +kernel
theorem dX12_putJump_102 : decode cX12_putJump 102 = .ok (.iconst 1, 1) := by decide +kernel
theorem dX12_putJump_103 : decode cX12_putJump 103 = .ok (.if_icmp .ne 10, 3) := by decide +kernel
theorem dX12_putJump_106 : decode cX12_putJump 106 = .ok (.iload 4, 2) := by decide +kernel
theorem dX12_putJump_108 : decode cX12_putJump 108 = .ok (.iconst 1, 1) := by decide +kernel
theorem dX12_putJump_109 : decode cX12_putJump 109 = .ok (.iadd, 1) := by decide +kernel
theorem dX12_putJump_110 : decode cX12_putJump 110 = .ok (.goto 7, 3) := by decide +kernel
theorem dX12_putJump_113 : decode cX12_putJump 113 = .ok (.iload 4, 2) := by decide +kernel
theorem dX12_putJump_115 : decode cX12_putJump 115 = .ok (.iconst 1, 1) := by decide +kernel
theorem dX12_putJump_116 : decode cX12_putJump 116 = .ok (.isub, 1) := by decide +kernel
theorem dX12_putJump_117 : decode cX12_putJump 117 = .ok (.iastore, 1) := by decide +kernel
theorem dX12_putJump_118 : decode cX12_putJump 118 = .ok (.aload_n 0, 1) := by decide +kernel
theorem dX12_putJump_119 : decode cX12_putJump 119 = .ok (.getfield 90, 3) := by decide +kernel
theorem dX12_putJump_122 : decode cX12_putJump 122 = .ok (.iload 5, 2) := by decide +kernel
theorem dX12_putJump_124 : decode cX12_putJump 124 = .ok (.iconst 1, 1) := by decide +kernel
theorem dX12_putJump_125 : decode cX12_putJump 125 = .ok (.iadd, 1) := by decide +kernel
theorem dX12_putJump_126 : decode cX12_putJump 126 = .ok (.iconst 5, 1) := by decide +kernel
theorem dX12_putJump_127 : decode cX12_putJump 127 = .ok (.iastore, 1) := by decide +kernel
theorem dX12_putJump_128 : decode cX12_putJump 128 = .ok (.iinc 5 2, 3) := by decide +kernel
theorem dX12_putJump_131 : decode cX12_putJump 131 = .ok (.iinc 6 (-2), 3) := by decide +kernel
theorem dX12_putJump_134 : decode cX12_putJump 134 = .ok (.aload_n 0, 1) := by decide +kernel
theorem dX12_putJump_135 : decode cX12_putJump 135 = .ok (.dup, 1) := by decide +kernel
theorem dX12_putJump_136 : decode cX12_putJump 136 = .ok (.getfield 224, 3) := by decide +kernel
theorem dX12_putJump_139 : decode cX12_putJump 139 = .ok (.iconst 1, 1) := by decide +kernel
theorem dX12_putJump_140 : decode cX12_putJump 140 = .ok (.iadd, 1) := by decide +kernel
theorem dX12_putJump_141 : decode cX12_putJump 141 = .ok (.putfield 224, 3) := by decide +kernel
theorem dX12_putJump_144 : decode cX12_putJump 144 = .ok (.aload_n 0, 1) := by decide +kernel
theorem dX12_putJump_145 : decode cX12_putJump 145 = .ok (.getfield 90, 3) := by decide +kernel
theorem dX12_putJump_148 : decode cX12_putJump 148 = .ok (.iload 5, 2) := by decide +kernel
theorem dX12_putJump_150 : decode cX12_putJump 150 = .ok (.sipush 168, 3) := by decide +kernel
theorem dX12_putJump_153 : decode cX12_putJump 153 = .ok (.iastore, 1) := by decide +kernel
theorem dX12_putJump_154 : decode cX12_putJump 154 = .ok (.aload_n 0, 1) := by decide +kernel
theorem dX12_putJump_155 : decode cX12_putJump 155 = .ok (.getfield 90, 3) := by decide +kernel
theorem dX12_putJump_158 : decode cX12_putJump 158 = .ok (.iload 5, 2) := by decide +kernel
theorem dX12_putJump_160 : decode cX12_putJump 160 = .ok (.iconst 1, 1) := by decide +kernel
theorem dX12_putJump_161 : decode cX12_putJump 161 = .ok (.iadd, 1) := by decide +kernel
theorem dX12_putJump_162 : decode cX12_putJump 162 = .ok (.iload 6, 2) := by decide +kernel
theorem dX12_putJump_164 : decode cX12_putJump 164 = .ok (.bipush 8, 2) := by decide +kernel
theorem dX12_putJump_166 : decode cX12_putJump 166 = .ok (.ishr, 1) := by decide +kernel
theorem dX12_putJump_167 : decode cX12_putJump 167 = .ok (.sipush 255, 3) := by decide +kernel
theorem dX12_putJump_170 : decode cX12_putJump 170 = .ok (.iand, 1) := by decide +kernel
theorem dX12_putJump_171 : decode cX12_putJump 171 = .ok (.iastore, 1) := by decide +kernel
theorem dX12_putJump_172 : decode cX12_putJump 172 = .ok (.aload_n 0, 1) := by decide +kernel
theorem dX12_putJump_173 : decode cX12_putJump 173 = .ok (.getfield 90, 3) := by decide +kernel
theorem dX12_putJump_176 : decode cX12_putJump 176 = .ok (.iload 5, 2) := by decide +kernel
theorem dX12_putJump_178 : decode cX12_putJump 178 = .ok (.iconst 2, 1) := by decide +kernel
theorem dX12_putJump_179 : decode cX12_putJump 179 = .ok (.iadd, 1) := by decide +kernel
theorem dX12_putJump_180 : decode cX12_putJump 180 = .ok (.iload 6, 2) := by decide +kernel
theorem dX12_putJump_182 : decode cX12_putJump 182 = .ok (.sipush 255, 3) := by decide +kernel
theorem dX12_putJump_185 : decode cX12_putJump 185 = .ok (.iand, 1) := by decide +kernel
theorem dX12_putJump_186 : decode cX12_putJump 186 = .ok (.iastore, 1) := by decide +kernel
theorem dX12_putJump_187 : decode cX12_putJump 187 = .ok (.return_, 1) := by decide +kernel
abbrev wcX12_putJump : List Cond := .code yX12_putJump cX12_putJump 8 none :: wsL_law
def jX12_putJump_144 (v0 : Nat) (v5 : Int32) (v6 : Int32) (g : hs_S) : Option (hs_S) :=
  if hs_kd g v0 = 10 then
  if ¬ (hs_R g v0 30) = 0 then
  if hs_kd g ((hs_R g v0 30) - 1) = 100 then
  if hs_in v5 (hs_ln g ((hs_R g v0 30) - 1)) = true then
  if ¬ (hs_R (hs_wI g ((hs_R g v0 30) - 1) v5.toNatClampNeg (168 : Int32)) v0 30) = 0 then
  if hs_kd (hs_wI g ((hs_R g v0 30) - 1) v5.toNatClampNeg (168 : Int32)) ((hs_R (hs_wI g ((hs_R g v0 30) - 1) v5.toNatClampNeg (168 : Int32)) v0 30) - 1) = 100 then
  if hs_in (v5 + (1 : Int32)) (hs_ln (hs_wI g ((hs_R g v0 30) - 1) v5.toNatClampNeg (168 : Int32)) ((hs_R (hs_wI g ((hs_R g v0 30) - 1) v5.toNatClampNeg (168 : Int32)) v0 30) - 1)) = true then
  hs_bv (some (hs_wI (hs_wI g ((hs_R g v0 30) - 1) v5.toNatClampNeg (168 : Int32)) ((hs_R (hs_wI g ((hs_R g v0 30) - 1) v5.toNatClampNeg (168 : Int32)) v0 30) - 1) (v5 + (1 : Int32)).toNatClampNeg ((v6 >>> ((8 : Int32) &&& 31)) &&& (255 : Int32)))) fun g23 =>
  if ¬ (hs_R g23 v0 30) = 0 then
  if hs_kd g23 ((hs_R g23 v0 30) - 1) = 100 then
  if hs_in (v5 + (2 : Int32)) (hs_ln g23 ((hs_R g23 v0 30) - 1)) = true then
  some (hs_wI g23 ((hs_R g23 v0 30) - 1) (v5 + (2 : Int32)).toNatClampNeg (v6 &&& (255 : Int32)))
  else none else none else none else none else none else none else none else none else none else none
def jX12_putJump_117 (v0 : Nat) (v5 : Int32) (v6 : Int32) (s0 : Int32) (s1 : Int32) (s2 : Nat) (g : hs_S) : Option (hs_S) :=
  if hs_kd g s2 = 100 then
  if hs_in s1 (hs_ln g s2) = true then
  if hs_kd (hs_wI g s2 s1.toNatClampNeg s0) v0 = 10 then
  if ¬ (hs_R (hs_wI g s2 s1.toNatClampNeg s0) v0 30) = 0 then
  if hs_kd (hs_wI g s2 s1.toNatClampNeg s0) ((hs_R (hs_wI g s2 s1.toNatClampNeg s0) v0 30) - 1) = 100 then
  if hs_in (v5 + (1 : Int32)) (hs_ln (hs_wI g s2 s1.toNatClampNeg s0) ((hs_R (hs_wI g s2 s1.toNatClampNeg s0) v0 30) - 1)) = true then
  hs_bv (some (hs_wI (hs_wI g s2 s1.toNatClampNeg s0) ((hs_R (hs_wI g s2 s1.toNatClampNeg s0) v0 30) - 1) (v5 + (1 : Int32)).toNatClampNeg (5 : Int32))) fun g41 =>
  jX12_putJump_144 v0 (v5 + (2 : Int32)) (v6 + (-2 : Int32)) (hs_wI g41 v0 31 ((hs_I g41 v0 31) + (1 : Int32)))
  else none else none else none else none else none else none
def jX12_putJump_70 (v0 : Nat) (v5 : Int32) (v6 : Int32) (s0 : Int32) (s1 : Int32) (s2 : Nat) (g : hs_S) : Option (hs_S) :=
  if hs_kd g s2 = 100 then
  if hs_in s1 (hs_ln g s2) = true then
  if hs_kd (hs_wI g s2 s1.toNatClampNeg s0) v0 = 10 then
  if ¬ (hs_R (hs_wI g s2 s1.toNatClampNeg s0) v0 30) = 0 then
  if hs_kd (hs_wI g s2 s1.toNatClampNeg s0) ((hs_R (hs_wI g s2 s1.toNatClampNeg s0) v0 30) - 1) = 100 then
  if hs_in (v5 + (1 : Int32)) (hs_ln (hs_wI g s2 s1.toNatClampNeg s0) ((hs_R (hs_wI g s2 s1.toNatClampNeg s0) v0 30) - 1)) = true then
  some (hs_wI (hs_wI g s2 s1.toNatClampNeg s0) ((hs_R (hs_wI g s2 s1.toNatClampNeg s0) v0 30) - 1) (v5 + (1 : Int32)).toNatClampNeg (v6 &&& (255 : Int32)))
  else none else none else none else none else none else none
def jX12_putJump_40 (v0 : Nat) (v2 : Int32) (v4 : Int32) (v5 : Int32) (v6 : Int32) (s0 : Int32) (g : hs_S) : Option (hs_S) :=
  if hs_kd g v0 = 10 then
  if ¬ (hs_R g v0 29) = 0 then
  if hs_kd g ((hs_R g v0 29) - 1) = 101 then
  if hs_in v2 (hs_ln g ((hs_R g v0 29) - 1)) = true then
  if (hs_I g ((hs_R g v0 29) - 1) v2.toNatClampNeg) = 0 then (
    if ¬ (hs_R g v0 30) = 0 then
    if s0 = 0 then (
      jX12_putJump_70 v0 v5 v6 (167 : Int32) v5 ((hs_R g v0 30) - 1) g
    ) else (
      jX12_putJump_70 v0 v5 v6 v4 v5 ((hs_R g v0 30) - 1) g
    )
    else none
  ) else (
    if s0 = 0 then (
      jX12_putJump_144 v0 v5 v6 g
    ) else (
      if ¬ (hs_R g v0 30) = 0 then
      if ¬ (2 : Int32) = 0 then
      if (v4 - v4 / (2 : Int32) * (2 : Int32)) = (1 : Int32) then (
        jX12_putJump_117 v0 v5 v6 (v4 + (1 : Int32)) v5 ((hs_R g v0 30) - 1) g
      ) else (
        jX12_putJump_117 v0 v5 v6 (v4 - (1 : Int32)) v5 ((hs_R g v0 30) - 1) g
      )
      else none else none
    )
  )
  else none else none else none else none
def fX12_putJump (v0 : Nat) (v1 : Int32) (v2 : Int32) (v3 : Int32) (g : hs_S) : Option (hs_S) :=
  if hs_kd g v0 = 10 then
  hs_bd (fX12_kindAt v0 v1 v2 g) fun r3 g2 =>
  if hs_kd g2 v0 = 10 then
  if ¬ (hs_R g2 v0 27) = 0 then
  hs_bd (fX12_leads v0 v1 v2 g2) fun r8 g7 =>
  if hs_kd g7 ((hs_R g2 v0 27) - 1) = 100 then
  if hs_in r8 (hs_ln g7 ((hs_R g2 v0 27) - 1)) = true then
  if (167 : Int32) ≤ r3 then (
    jX12_putJump_40 v0 v2 r3 v3 ((hs_I g7 ((hs_R g2 v0 27) - 1) r8.toNatClampNeg) - v3) (0 : Int32) g7
  ) else (
    jX12_putJump_40 v0 v2 r3 v3 ((hs_I g7 ((hs_R g2 v0 27) - 1) r8.toNatClampNeg) - v3) (1 : Int32) g7
  )
  else none else none else none else none else none
abbrev rmX12_putJump : Room := { frames := 3, cells := 0, slots := 0, locals := 66 }
set_option maxHeartbeats 4000000 in
set_option maxRecDepth 100000 in
theorem wX12_putJump_j144 {p : Program} {l : Launch} {e : Env} {s : State} {m : MethodId} {args : Array Value} {below : List Frame} {meth : Method} {c : Code} {B : Nat} {D : va_G} {E : Nat → ClassId} (hX : hs_cx cX12_putJump none 8 RX12 wcX12_putJump p s m args meth c D E) {o : hs_S}  {v0 : Nat} {v5 : Int32} {v6 : Int32}   {g : hs_S} {H : Heap} {locs : List Loc} {ls : Array Slot} (hf : jX12_putJump_144 v0 v5 v6 g = some o) (hP : hs_P B D E g H) (hS : hs_Sx B s.heap H locs) (hl : lv_has ls 8 [(0, .ref (B + v0)), (5, .int v5), (6, .int v6)]) : W p l e rmX12_putJump s m args below meth c H locs 0 0 (MQ below (hs_Qv B D E o) args s 0 0 (hs_F B)) (F0 m 144 ls []) := by
  obtain ⟨hx, hb, hr, hml, hown, hts, hlocks, hK⟩ := id hX
  unfold jX12_putJump_144 at hf
  refine lv_aload_n hx hb dX12_putJump_144 rfl (lv_at hl 0 rfl) ?_
  obtain ⟨h16, hf⟩ := hs_ck hf
  obtain ⟨h17, hf⟩ := hs_ck hf
  refine hs_getr (C := RX12) (T := TX12) (N := 48) hx hb hts (fun w h => List.mem_cons_of_mem _ (inlX12 w h)) hown hK.1 hP h16 (by decide) rfl 30 (by decide) (hts _ (List.mem_cons_of_mem _ wq148)) (fun _ h => h) rfl h17 dX12_putJump_145 ?_
  refine lv_iload hx hb dX12_putJump_148 (lv_at hl 1 rfl) ?_
  refine lv_sipush (v := 168) hx hb dX12_putJump_150 (by decide) ?_
  obtain ⟨h18, hf⟩ := hs_ck hf
  obtain ⟨h19, hf⟩ := hs_ck hf
  refine hs_iast hx hb hK.1 hP hS h18 h19 dX12_putJump_153 (fun H locs hP hS => ?_)
  refine lv_aload_n hx hb dX12_putJump_154 rfl (lv_at hl 0 rfl) ?_
  obtain ⟨h20, hf⟩ := hs_ck hf
  refine hs_getr (C := RX12) (T := TX12) (N := 48) hx hb hts (fun w h => List.mem_cons_of_mem _ (inlX12 w h)) hown hK.1 hP h16 (by decide) rfl 30 (by decide) (hts _ (List.mem_cons_of_mem _ wq148)) (fun _ h => h) rfl h20 dX12_putJump_155 ?_
  refine lv_iload hx hb dX12_putJump_158 (lv_at hl 1 rfl) ?_
  refine lv_iconst (v := 1) hx hb dX12_putJump_160 (by decide) ?_
  refine lv_iadd hx hb dX12_putJump_161 ?_
  refine lv_iload hx hb dX12_putJump_162 (lv_at hl 2 rfl) ?_
  refine lv_bipush (v := 8) hx hb dX12_putJump_164 (by decide) ?_
  refine lv_ishr hx hb dX12_putJump_166 ?_
  refine lv_sipush (v := 255) hx hb dX12_putJump_167 (by decide) ?_
  refine lv_iand hx hb dX12_putJump_170 ?_
  obtain ⟨h21, hf⟩ := hs_ck hf
  obtain ⟨h22, hf⟩ := hs_ck hf
  refine hs_iast hx hb hK.1 hP hS h21 h22 dX12_putJump_171 (fun H locs hP hS => ?_)
  obtain ⟨g23, e24, hf⟩ := hs_bv_some hf
  replace e24 := Option.some.inj e24
  rw [e24] at hP
  have h25 : hs_kd g23 v0 = 10 := by rw [← e24]; exact h16
  have h26 : hs_kd g23 ((hs_R g v0 30) - 1) = 100 := by rw [← e24]; exact h18
  have h27 : hs_in v5 (hs_ln g23 ((hs_R g v0 30) - 1)) = true := by rw [← e24]; exact h19
  have h28 : hs_kd g23 ((hs_R (hs_wI g ((hs_R g v0 30) - 1) v5.toNatClampNeg (168 : Int32)) v0 30) - 1) = 100 := by rw [← e24]; exact h21
  have h29 : hs_in (v5 + (1 : Int32)) (hs_ln g23 ((hs_R (hs_wI g ((hs_R g v0 30) - 1) v5.toNatClampNeg (168 : Int32)) v0 30) - 1)) = true := by rw [← e24]; exact h22
  refine lv_aload_n hx hb dX12_putJump_172 rfl (lv_at hl 0 rfl) ?_
  obtain ⟨h30, hf⟩ := hs_ck hf
  refine hs_getr (C := RX12) (T := TX12) (N := 48) hx hb hts (fun w h => List.mem_cons_of_mem _ (inlX12 w h)) hown hK.1 hP h25 (by decide) rfl 30 (by decide) (hts _ (List.mem_cons_of_mem _ wq148)) (fun _ h => h) rfl h30 dX12_putJump_173 ?_
  refine lv_iload hx hb dX12_putJump_176 (lv_at hl 1 rfl) ?_
  refine lv_iconst (v := 2) hx hb dX12_putJump_178 (by decide) ?_
  refine lv_iadd hx hb dX12_putJump_179 ?_
  refine lv_iload hx hb dX12_putJump_180 (lv_at hl 2 rfl) ?_
  refine lv_sipush (v := 255) hx hb dX12_putJump_182 (by decide) ?_
  refine lv_iand hx hb dX12_putJump_185 ?_
  obtain ⟨h31, hf⟩ := hs_ck hf
  obtain ⟨h32, hf⟩ := hs_ck hf
  refine hs_iast hx hb hK.1 hP hS h31 h32 dX12_putJump_186 (fun H locs hP hS => ?_)
  exact hs_vret hx hb hr hlocks hK hP hS hf dX12_putJump_187

set_option maxHeartbeats 4000000 in
set_option maxRecDepth 100000 in
theorem wX12_putJump_j117 {p : Program} {l : Launch} {e : Env} {s : State} {m : MethodId} {args : Array Value} {below : List Frame} {meth : Method} {c : Code} {B : Nat} {D : va_G} {E : Nat → ClassId} (hX : hs_cx cX12_putJump none 8 RX12 wcX12_putJump p s m args meth c D E) {o : hs_S}  {v0 : Nat} {v5 : Int32} {v6 : Int32} {s0 : Int32} {s1 : Int32} {s2 : Nat}   {g : hs_S} {H : Heap} {locs : List Loc} {ls : Array Slot} (hf : jX12_putJump_117 v0 v5 v6 s0 s1 s2 g = some o) (hP : hs_P B D E g H) (hS : hs_Sx B s.heap H locs) (hl : lv_has ls 8 [(0, .ref (B + v0)), (5, .int v5), (6, .int v6)]) : W p l e rmX12_putJump s m args below meth c H locs 0 0 (MQ below (hs_Qv B D E o) args s 0 0 (hs_F B)) (F0 m 117 ls [.int s0, .int s1, .ref (B + s2)]) := by
  obtain ⟨hx, hb, hr, hml, hown, hts, hlocks, hK⟩ := id hX
  unfold jX12_putJump_117 at hf
  obtain ⟨h35, hf⟩ := hs_ck hf
  obtain ⟨h36, hf⟩ := hs_ck hf
  refine hs_iast hx hb hK.1 hP hS h35 h36 dX12_putJump_117 (fun H locs hP hS => ?_)
  refine lv_aload_n hx hb dX12_putJump_118 rfl (lv_at hl 0 rfl) ?_
  obtain ⟨h37, hf⟩ := hs_ck hf
  obtain ⟨h38, hf⟩ := hs_ck hf
  refine hs_getr (C := RX12) (T := TX12) (N := 48) hx hb hts (fun w h => List.mem_cons_of_mem _ (inlX12 w h)) hown hK.1 hP h37 (by decide) rfl 30 (by decide) (hts _ (List.mem_cons_of_mem _ wq148)) (fun _ h => h) rfl h38 dX12_putJump_119 ?_
  refine lv_iload hx hb dX12_putJump_122 (lv_at hl 1 rfl) ?_
  refine lv_iconst (v := 1) hx hb dX12_putJump_124 (by decide) ?_
  refine lv_iadd hx hb dX12_putJump_125 ?_
  refine lv_iconst (v := 5) hx hb dX12_putJump_126 (by decide) ?_
  obtain ⟨h39, hf⟩ := hs_ck hf
  obtain ⟨h40, hf⟩ := hs_ck hf
  refine hs_iast hx hb hK.1 hP hS h39 h40 dX12_putJump_127 (fun H locs hP hS => ?_)
  obtain ⟨g41, e42, hf⟩ := hs_bv_some hf
  replace e42 := Option.some.inj e42
  rw [e42] at hP
  have h43 : hs_kd g41 s2 = 100 := by rw [← e42]; exact h35
  have h44 : hs_in s1 (hs_ln g41 s2) = true := by rw [← e42]; exact h36
  have h45 : hs_kd g41 v0 = 10 := by rw [← e42]; exact h37
  have h46 : hs_kd g41 ((hs_R (hs_wI g s2 s1.toNatClampNeg s0) v0 30) - 1) = 100 := by rw [← e42]; exact h39
  have h47 : hs_in (v5 + (1 : Int32)) (hs_ln g41 ((hs_R (hs_wI g s2 s1.toNatClampNeg s0) v0 30) - 1)) = true := by rw [← e42]; exact h40
  refine lv_iinc (v := (v5 + (2 : Int32))) (lv' := [(5, .int (v5 + (2 : Int32))), (0, .ref (B + v0)), (6, .int v6)]) hx hb dX12_putJump_128 hl (k := 1) rfl (by rfl) (by decide) rfl (fun ls hl => ?_)
  refine lv_iinc (v := (v6 + (-2 : Int32))) (lv' := [(6, .int (v6 + (-2 : Int32))), (5, .int (v5 + (2 : Int32))), (0, .ref (B + v0))]) hx hb dX12_putJump_131 hl (k := 2) rfl (by rfl) (by decide) rfl (fun ls hl => ?_)
  refine lv_aload_n hx hb dX12_putJump_134 rfl (lv_at hl 2 rfl) ?_
  refine lv_dup hx hb dX12_putJump_135 rfl ?_
  refine hs_geti (C := RX12) (T := TX12) (N := 48) hx hb hts (fun w h => List.mem_cons_of_mem _ (inlX12 w h)) hown hK.1 hP h45 (by decide) rfl 31 (by decide) (hts _ (List.mem_cons_of_mem _ wq595)) (fun _ h => h) rfl dX12_putJump_136 ?_
  refine lv_iconst (v := 1) hx hb dX12_putJump_139 (by decide) ?_
  refine lv_iadd hx hb dX12_putJump_140 ?_
  refine hs_puti (C := RX12) (T := TX12) (N := 48) hx hb hts (fun w h => List.mem_cons_of_mem _ (inlX12 w h)) tyX12 tyX12_ok nmX12 hown hK.1 hP hS h45 (by decide) rfl 31 (by decide) (hts _ (List.mem_cons_of_mem _ wq595)) (fun _ h => h) (Or.inl rfl) rfl rfl rfl dX12_putJump_141 (fun H locs hP hS => ?_)
  exact wX12_putJump_j144 hX hf hP hS (lv_sub hl [2, 1, 0] rfl)

set_option maxHeartbeats 4000000 in
set_option maxRecDepth 100000 in
theorem wX12_putJump_j70 {p : Program} {l : Launch} {e : Env} {s : State} {m : MethodId} {args : Array Value} {below : List Frame} {meth : Method} {c : Code} {B : Nat} {D : va_G} {E : Nat → ClassId} (hX : hs_cx cX12_putJump none 8 RX12 wcX12_putJump p s m args meth c D E) {o : hs_S}  {v0 : Nat} {v5 : Int32} {v6 : Int32} {s0 : Int32} {s1 : Int32} {s2 : Nat}   {g : hs_S} {H : Heap} {locs : List Loc} {ls : Array Slot} (hf : jX12_putJump_70 v0 v5 v6 s0 s1 s2 g = some o) (hP : hs_P B D E g H) (hS : hs_Sx B s.heap H locs) (hl : lv_has ls 8 [(0, .ref (B + v0)), (5, .int v5), (6, .int v6)]) : W p l e rmX12_putJump s m args below meth c H locs 0 0 (MQ below (hs_Qv B D E o) args s 0 0 (hs_F B)) (F0 m 70 ls [.int s0, .int s1, .ref (B + s2)]) := by
  obtain ⟨hx, hb, hr, hml, hown, hts, hlocks, hK⟩ := id hX
  unfold jX12_putJump_70 at hf
  obtain ⟨h49, hf⟩ := hs_ck hf
  obtain ⟨h50, hf⟩ := hs_ck hf
  refine hs_iast hx hb hK.1 hP hS h49 h50 dX12_putJump_70 (fun H locs hP hS => ?_)
  refine lv_aload_n hx hb dX12_putJump_71 rfl (lv_at hl 0 rfl) ?_
  obtain ⟨h51, hf⟩ := hs_ck hf
  obtain ⟨h52, hf⟩ := hs_ck hf
  refine hs_getr (C := RX12) (T := TX12) (N := 48) hx hb hts (fun w h => List.mem_cons_of_mem _ (inlX12 w h)) hown hK.1 hP h51 (by decide) rfl 30 (by decide) (hts _ (List.mem_cons_of_mem _ wq148)) (fun _ h => h) rfl h52 dX12_putJump_72 ?_
  refine lv_iload hx hb dX12_putJump_75 (lv_at hl 1 rfl) ?_
  refine lv_iconst (v := 1) hx hb dX12_putJump_77 (by decide) ?_
  refine lv_iadd hx hb dX12_putJump_78 ?_
  refine lv_iload hx hb dX12_putJump_79 (lv_at hl 2 rfl) ?_
  refine lv_sipush (v := 255) hx hb dX12_putJump_81 (by decide) ?_
  refine lv_iand hx hb dX12_putJump_84 ?_
  obtain ⟨h53, hf⟩ := hs_ck hf
  obtain ⟨h54, hf⟩ := hs_ck hf
  refine hs_iast hx hb hK.1 hP hS h53 h54 dX12_putJump_85 (fun H locs hP hS => ?_)
  exact hs_vret hx hb hr hlocks hK hP hS hf dX12_putJump_86

set_option maxHeartbeats 4000000 in
set_option maxRecDepth 100000 in
theorem wX12_putJump_j40 {p : Program} {l : Launch} {e : Env} {s : State} {m : MethodId} {args : Array Value} {below : List Frame} {meth : Method} {c : Code} {B : Nat} {D : va_G} {E : Nat → ClassId} (hX : hs_cx cX12_putJump none 8 RX12 wcX12_putJump p s m args meth c D E) {o : hs_S}  {v0 : Nat} {v2 : Int32} {v4 : Int32} {v5 : Int32} {v6 : Int32} {s0 : Int32}   {g : hs_S} {H : Heap} {locs : List Loc} {ls : Array Slot} (hf : jX12_putJump_40 v0 v2 v4 v5 v6 s0 g = some o) (hP : hs_P B D E g H) (hS : hs_Sx B s.heap H locs) (hl : lv_has ls 8 [(0, .ref (B + v0)), (2, .int v2), (4, .int v4), (5, .int v5), (6, .int v6)]) : W p l e rmX12_putJump s m args below meth c H locs 0 0 (MQ below (hs_Qv B D E o) args s 0 0 (hs_F B)) (F0 m 40 ls [.int s0]) := by
  obtain ⟨hx, hb, hr, hml, hown, hts, hlocks, hK⟩ := id hX
  unfold jX12_putJump_40 at hf
  refine lv_istore (lv' := [(7, .int s0), (0, .ref (B + v0)), (2, .int v2), (4, .int v4), (5, .int v5), (6, .int v6)]) hx hb dX12_putJump_40 hl (by decide) rfl (fun ls hl => ?_)
  refine lv_aload_n hx hb dX12_putJump_42 rfl (lv_at hl 1 rfl) ?_
  obtain ⟨h12, hf⟩ := hs_ck hf
  obtain ⟨h13, hf⟩ := hs_ck hf
  refine hs_getr (C := RX12) (T := TX12) (N := 48) hx hb hts (fun w h => List.mem_cons_of_mem _ (inlX12 w h)) hown hK.1 hP h12 (by decide) rfl 29 (by decide) (hts _ (List.mem_cons_of_mem _ wq147)) (fun _ h => h) rfl h13 dX12_putJump_43 ?_
  refine lv_iload_n hx hb dX12_putJump_46 rfl (lv_at hl 2 rfl) ?_
  obtain ⟨h14, hf⟩ := hs_ck hf
  obtain ⟨h15, hf⟩ := hs_ck hf
  refine hs_zald hx hb hK.1 hP h14 h15 dX12_putJump_47 ?_
  refine lv_if_ne (tgt := 87) hx hb dX12_putJump_48 (by decide) (fun hc => ?_) (fun hc => ?_)
  · replace hf := hs_f hf hc
    refine lv_iload hx hb dX12_putJump_87 (lv_at hl 0 rfl) ?_
    refine lv_if_eq (tgt := 144) hx hb dX12_putJump_89 (by decide) (fun hc => ?_) (fun hc => ?_)
    · replace hf := hs_t hf hc
      exact wX12_putJump_j144 hX hf hP hS (lv_sub hl [1, 4, 5] rfl)
    · replace hf := hs_f hf hc
      refine lv_aload_n hx hb dX12_putJump_92 rfl (lv_at hl 1 rfl) ?_
      obtain ⟨h33, hf⟩ := hs_ck hf
      refine hs_getr (C := RX12) (T := TX12) (N := 48) hx hb hts (fun w h => List.mem_cons_of_mem _ (inlX12 w h)) hown hK.1 hP h12 (by decide) rfl 30 (by decide) (hts _ (List.mem_cons_of_mem _ wq148)) (fun _ h => h) rfl h33 dX12_putJump_93 ?_
      refine lv_iload hx hb dX12_putJump_96 (lv_at hl 4 rfl) ?_
      refine lv_iload hx hb dX12_putJump_98 (lv_at hl 3 rfl) ?_
      refine lv_iconst (v := 2) hx hb dX12_putJump_100 (by decide) ?_
      obtain ⟨h34, hf⟩ := hs_ck hf
      refine lv_irem hx hb dX12_putJump_101 h34 ?_
      refine lv_iconst (v := 1) hx hb dX12_putJump_102 (by decide) ?_
      refine lv_icmp_ne (tgt := 113) hx hb dX12_putJump_103 (by decide) (fun hc => ?_) (fun hc => ?_)
      · replace hf := hs_f hf hc
        refine lv_iload hx hb dX12_putJump_113 (lv_at hl 3 rfl) ?_
        refine lv_iconst (v := 1) hx hb dX12_putJump_115 (by decide) ?_
        refine lv_isub hx hb dX12_putJump_116 ?_
        exact wX12_putJump_j117 hX hf hP hS (lv_sub hl [1, 4, 5] rfl)
      · replace hf := hs_t hf hc
        refine lv_iload hx hb dX12_putJump_106 (lv_at hl 3 rfl) ?_
        refine lv_iconst (v := 1) hx hb dX12_putJump_108 (by decide) ?_
        refine lv_iadd hx hb dX12_putJump_109 ?_
        refine lv_goto (tgt := 117) hx hb dX12_putJump_110 (by decide) ?_
        exact wX12_putJump_j117 hX hf hP hS (lv_sub hl [1, 4, 5] rfl)
  · replace hf := hs_t hf hc
    refine lv_aload_n hx hb dX12_putJump_51 rfl (lv_at hl 1 rfl) ?_
    obtain ⟨h48, hf⟩ := hs_ck hf
    refine hs_getr (C := RX12) (T := TX12) (N := 48) hx hb hts (fun w h => List.mem_cons_of_mem _ (inlX12 w h)) hown hK.1 hP h12 (by decide) rfl 30 (by decide) (hts _ (List.mem_cons_of_mem _ wq148)) (fun _ h => h) rfl h48 dX12_putJump_52 ?_
    refine lv_iload hx hb dX12_putJump_55 (lv_at hl 4 rfl) ?_
    refine lv_iload hx hb dX12_putJump_57 (lv_at hl 0 rfl) ?_
    refine lv_if_eq (tgt := 67) hx hb dX12_putJump_59 (by decide) (fun hc => ?_) (fun hc => ?_)
    · replace hf := hs_t hf hc
      refine lv_sipush (v := 167) hx hb dX12_putJump_67 (by decide) ?_
      exact wX12_putJump_j70 hX hf hP hS (lv_sub hl [1, 4, 5] rfl)
    · replace hf := hs_f hf hc
      refine lv_iload hx hb dX12_putJump_62 (lv_at hl 3 rfl) ?_
      refine lv_goto (tgt := 70) hx hb dX12_putJump_64 (by decide) ?_
      exact wX12_putJump_j70 hX hf hP hS (lv_sub hl [1, 4, 5] rfl)

set_option maxHeartbeats 4000000 in
set_option maxRecDepth 100000 in
theorem ctX12_putJump (l : Launch) (B : Nat) (D : va_G) (E : Nat → ClassId) (v0 : Nat) (v1 : Int32) (v2 : Int32) (v3 : Int32) (g : hs_S) (o : hs_S) (hf : fX12_putJump v0 v1 v2 v3 g = some o) : Met l yX12_putJump wcX12_putJump rmX12_putJump (hs_Pc B D E g [.ref (B + v0), .int v1, .int v2, .int v3]) (hs_Qv B D E o) (0) (0) (hs_F B) := by
  refine Met.ofW (cc := cX12_putJump) (maxL := 8) (ret := none) (by decide) rfl ?_
  intro p e s m args below meth c s₁ Bd hml hv
  obtain ⟨rfl, hP, hK⟩ := hv
  have hx := Bd.exec
  have hb := Bd.bytes
  have hr := Bd.returns
  have hts := atoms_spec (ws := wcX12_putJump) Bd.pre
  have hown : s.vm.findClass RX12 = some m.cls := findClass_of_methodNamed Bd.named
  have hlocks := Bd.notSynchronized
  have hS : hs_Sx B s.heap s.heap [] := va_S.rf
  have hX : hs_cx cX12_putJump none 8 RX12 wcX12_putJump p s m (List.toArray [.ref (B + v0), .int v1, .int v2, .int v3]) meth c D E := ⟨hx, hb, hr, hml, hown, hts, hlocks, hK⟩
  have hl := lv_entry ([.ref (B + v0), .int v1, .int v2, .int v3]) (n := 8) (Nat.le_of_ble_eq_true rfl)
  rw [lg_entry_eq]
  generalize (lg_sl ([.ref (B + v0), .int v1, .int v2, .int v3]) ++ List.replicate (8 - (lg_sl ([.ref (B + v0), .int v1, .int v2, .int v3])).length) Slot.unset).toArray = ls at hl ⊢
  have hl : lv_has ls 8 [(0, .ref (B + v0)), (1, .int v1), (2, .int v2), (3, .int v3)] := hl
  have hP : hs_P B D E g s.heap := hP
  unfold fX12_putJump at hf
  refine lv_aload_n hx hb dX12_putJump_0 rfl (lv_at hl 0 rfl) ?_
  refine lv_iload_n hx hb dX12_putJump_1 rfl (lv_at hl 1 rfl) ?_
  refine lv_iload_n hx hb dX12_putJump_2 rfl (lv_at hl 2 rfl) ?_
  obtain ⟨h1, hf⟩ := hs_ck hf
  obtain ⟨r3, g2, h4, hf⟩ := hs_bd_some hf
  refine hs_calli (va_runV (As := [.int v1, .int v2]) (rest := []) ⟨hx, hb, hml, hown, hts⟩ (ctX12_kindAt l B D E v0 v1 v2 g _ h4) (cwV 2 hts (hs_gV (fun _ h => List.mem_cons_of_mem _ h) wq604 wq605 wq606 wq5 wq607) rfl rfl rfl (by decide +kernel) ⟨Nat.le_of_ble_eq_true rfl, Nat.le_of_ble_eq_true rfl⟩) (hs_preV (r := (RX12, TX12, 48)) hP hK h1 (by decide) rfl) rfl rfl hl.1 rfl (lv_room (Nat.le_of_ble_eq_true rfl)) dX12_putJump_3 ⟨(Nat.le_of_ble_eq_true rfl), (Nat.le_of_ble_eq_true rfl)⟩) hS (fun H locs hP hS => ?_)
  refine lv_istore (lv' := [(4, .int r3), (0, .ref (B + v0)), (1, .int v1), (2, .int v2), (3, .int v3)]) hx hb dX12_putJump_6 hl (by decide) rfl (fun ls hl => ?_)
  refine lv_iload_n hx hb dX12_putJump_8 rfl (lv_at hl 4 rfl) ?_
  refine lv_istore (lv' := [(5, .int v3), (4, .int r3), (0, .ref (B + v0)), (1, .int v1), (2, .int v2), (3, .int v3)]) hx hb dX12_putJump_9 hl (by decide) rfl (fun ls hl => ?_)
  refine lv_aload_n hx hb dX12_putJump_11 rfl (lv_at hl 2 rfl) ?_
  obtain ⟨h5, hf⟩ := hs_ck hf
  obtain ⟨h6, hf⟩ := hs_ck hf
  refine hs_getr (C := RX12) (T := TX12) (N := 48) hx hb hts (fun w h => List.mem_cons_of_mem _ (inlX12 w h)) hown hK.1 hP h5 (by decide) rfl 27 (by decide) (hts _ (List.mem_cons_of_mem _ wq145)) (fun _ h => h) rfl h6 dX12_putJump_12 ?_
  refine lv_aload_n hx hb dX12_putJump_15 rfl (lv_at hl 2 rfl) ?_
  refine lv_iload_n hx hb dX12_putJump_16 rfl (lv_at hl 3 rfl) ?_
  refine lv_iload_n hx hb dX12_putJump_17 rfl (lv_at hl 4 rfl) ?_
  obtain ⟨r8, g7, h9, hf⟩ := hs_bd_some hf
  refine hs_calli (va_runV (As := [.int v1, .int v2]) (rest := [.ref (B + ((hs_R g2 v0 27) - 1))]) ⟨hx, hb, hml, hown, hts⟩ (ctX12_leads l B D E v0 v1 v2 g2 _ h9) (cwV 2 hts (hs_gV (fun _ h => List.mem_cons_of_mem _ h) wq608 wq609 wq610 wq5 wq611) rfl rfl rfl (by decide +kernel) ⟨Nat.le_of_ble_eq_true rfl, Nat.le_of_ble_eq_true rfl⟩) (hs_preV (r := (RX12, TX12, 48)) hP hK h5 (by decide) rfl) rfl rfl hl.1 rfl (lv_room (Nat.le_of_ble_eq_true rfl)) dX12_putJump_18 ⟨(Nat.le_of_ble_eq_true rfl), (Nat.le_of_ble_eq_true rfl)⟩) hS (fun H locs hP hS => ?_)
  obtain ⟨h10, hf⟩ := hs_ck hf
  obtain ⟨h11, hf⟩ := hs_ck hf
  refine hs_iald hx hb hK.1 hP h10 h11 dX12_putJump_21 ?_
  refine lv_iload hx hb dX12_putJump_22 (lv_at hl 0 rfl) ?_
  refine lv_isub hx hb dX12_putJump_24 ?_
  refine lv_istore (lv' := [(6, .int ((hs_I g7 ((hs_R g2 v0 27) - 1) r8.toNatClampNeg) - v3)), (5, .int v3), (4, .int r3), (0, .ref (B + v0)), (1, .int v1), (2, .int v2), (3, .int v3)]) hx hb dX12_putJump_25 hl (by decide) rfl (fun ls hl => ?_)
  refine lv_iload hx hb dX12_putJump_27 (lv_at hl 2 rfl) ?_
  refine lv_sipush (v := 167) hx hb dX12_putJump_29 (by decide) ?_
  refine lv_icmp_ge (tgt := 39) hx hb dX12_putJump_32 (by decide) (fun hc => ?_) (fun hc => ?_)
  · replace hf := hs_t hf hc
    refine lv_iconst (v := 0) hx hb dX12_putJump_39 (by decide) ?_
    exact wX12_putJump_j40 hX hf hP hS (lv_sub hl [3, 5, 2, 1, 0] rfl)
  · replace hf := hs_f hf hc
    refine lv_iconst (v := 1) hx hb dX12_putJump_35 (by decide) ?_
    refine lv_goto (tgt := 40) hx hb dX12_putJump_36 (by decide) ?_
    exact wX12_putJump_j40 hX hf hP hS (lv_sub hl [3, 5, 2, 1, 0] rfl)

theorem dX12_put_0 : decode cX12_put 0 = .ok (.aload_n 0, 1) := by decide +kernel
theorem dX12_put_1 : decode cX12_put 1 = .ok (.iconst 0, 1) := by decide +kernel
theorem dX12_put_2 : decode cX12_put 2 = .ok (.putfield 224, 3) := by decide +kernel
theorem dX12_put_5 : decode cX12_put 5 = .ok (.iconst 0, 1) := by decide +kernel
theorem dX12_put_6 : decode cX12_put 6 = .ok (.istore_n 3, 1) := by decide +kernel
theorem dX12_put_7 : decode cX12_put 7 = .ok (.iload_n 3, 1) := by decide +kernel
theorem dX12_put_8 : decode cX12_put 8 = .ok (.aload_n 0, 1) := by decide +kernel
theorem dX12_put_9 : decode cX12_put 9 = .ok (.getfield 23, 3) := by decide +kernel
theorem dX12_put_12 : decode cX12_put 12 = .ok (.iload_n 1, 1) := by decide +kernel
theorem dX12_put_13 : decode cX12_put 13 = .ok (.iaload, 1) := by decide +kernel
theorem dX12_put_14 : decode cX12_put 14 = .ok (.if_icmp .ge 196, 3) := by decide +kernel
theorem dX12_put_17 : decode cX12_put 17 = .ok (.aload_n 0, 1) := by decide +kernel
theorem dX12_put_18 : decode cX12_put 18 = .ok (.iload_n 1, 1) := by decide +kernel
theorem dX12_put_19 : decode cX12_put 19 = .ok (.iload_n 3, 1) := by decide +kernel
theorem dX12_put_20 : decode cX12_put 20 = .ok (.invokevirtual 201, 3) := by decide +kernel
theorem dX12_put_23 : decode cX12_put 23 = .ok (.istore 4, 2) := by decide +kernel
theorem dX12_put_25 : decode cX12_put 25 = .ok (.aload_n 0, 1) := by decide +kernel
theorem dX12_put_26 : decode cX12_put 26 = .ok (.getfield 81, 3) := by decide +kernel
theorem dX12_put_29 : decode cX12_put 29 = .ok (.iload_n 3, 1) := by decide +kernel
theorem dX12_put_30 : decode cX12_put 30 = .ok (.iaload, 1) := by decide +kernel
theorem dX12_put_31 : decode cX12_put 31 = .ok (.istore 5, 2) := by decide +kernel
theorem dX12_put_33 : decode cX12_put 33 = .ok (.aload_n 0, 1) := by decide +kernel
theorem dX12_put_34 : decode cX12_put 34 = .ok (.iload_n 1, 1) := by decide +kernel
theorem dX12_put_35 : decode cX12_put 35 = .ok (.iload_n 3, 1) := by decide +kernel
theorem dX12_put_36 : decode cX12_put 36 = .ok (.iload_n 2, 1) := by decide +kernel
theorem dX12_put_37 : decode cX12_put 37 = .ok (.invokevirtual 217, 3) := by decide +kernel
theorem dX12_put_40 : decode cX12_put 40 = .ok (.ifCond .le 66, 3) := by decide +kernel
theorem dX12_put_43 : decode cX12_put 43 = .ok (.aload_n 0, 1) := by decide +kernel
theorem dX12_put_44 : decode cX12_put 44 = .ok (.iload_n 1, 1) := by decide +kernel
theorem dX12_put_45 : decode cX12_put 45 = .ok (.iload_n 3, 1) := by decide +kernel
theorem dX12_put_46 : decode cX12_put 46 = .ok (.invokevirtual 214, 3) := by decide +kernel
theorem dX12_put_49 : decode cX12_put 49 = .ok (.istore 6, 2) := by decide +kernel
theorem dX12_put_51 : decode cX12_put 51 = .ok (.aload_n 0, 1) := by decide +kernel
theorem dX12_put_52 : decode cX12_put 52 = .ok (.getfield 90, 3) := by decide +kernel
theorem dX12_put_55 : decode cX12_put 55 = .ok (.iload 5, 2) := by decide +kernel
theorem dX12_put_57 : decode cX12_put 57 = .ok (.sipush 202, 3) := by decide +kernel
theorem dX12_put_60 : decode cX12_put 60 = .ok (.iastore, 1) := by decide +kernel
theorem dX12_put_61 : decode cX12_put 61 = .ok (.iconst 0, 1) := by decide +kernel
theorem dX12_put_62 : decode cX12_put 62 = .ok (.istore 7, 2) := by decide +kernel
theorem dX12_put_64 : decode cX12_put 64 = .ok (.iload 7, 2) := by decide +kernel
theorem dX12_put_66 : decode cX12_put 66 = .ok (.iconst 4, 1) := by decide +kernel
theorem dX12_put_67 : decode cX12_put 67 = .ok (.if_icmp .ge 36, 3) := by decide +kernel
theorem dX12_put_70 : decode cX12_put 70 = .ok (.aload_n 0, 1) := by decide +kernel
theorem dX12_put_71 : decode cX12_put 71 = .ok (.getfield 90, 3) := by decide +kernel
theorem dX12_put_74 : decode cX12_put 74 = .ok (.iload 5, 2) := by decide +kernel
theorem dX12_put_76 : decode cX12_put 76 = .ok (.iconst 1, 1) := by decide +kernel
theorem dX12_put_77 : decode cX12_put 77 = .ok (.iadd, 1) := by decide +kernel
theorem dX12_put_78 : decode cX12_put 78 = .ok (.iload 7, 2) := by decide +kernel
theorem dX12_put_80 : decode cX12_put 80 = .ok (.iadd, 1) := by decide +kernel
theorem dX12_put_81 : decode cX12_put 81 = .ok (.iload 6, 2) := by decide +kernel
theorem dX12_put_83 : decode cX12_put 83 = .ok (.bipush 24, 2) := by decide +kernel
theorem dX12_put_85 : decode cX12_put 85 = .ok (.bipush 8, 2) := by decide +kernel
theorem dX12_put_87 : decode cX12_put 87 = .ok (.iload 7, 2) := by decide +kernel
theorem dX12_put_89 : decode cX12_put 89 = .ok (.imul, 1) := by decide +kernel
theorem dX12_put_90 : decode cX12_put 90 = .ok (.isub, 1) := by decide +kernel
theorem dX12_put_91 : decode cX12_put 91 = .ok (.ishr, 1) := by decide +kernel
theorem dX12_put_92 : decode cX12_put 92 = .ok (.sipush 255, 3) := by decide +kernel
theorem dX12_put_95 : decode cX12_put 95 = .ok (.iand, 1) := by decide +kernel
theorem dX12_put_96 : decode cX12_put 96 = .ok (.iastore, 1) := by decide +kernel
theorem dX12_put_97 : decode cX12_put 97 = .ok (.iinc 7 1, 3) := by decide +kernel
theorem dX12_put_100 : decode cX12_put 100 = .ok (.goto (-36), 3) := by decide +kernel
theorem dX12_put_103 : decode cX12_put 103 = .ok (.iinc 5 5, 3) := by decide +kernel
theorem dX12_put_106 : decode cX12_put 106 = .ok (.iload_n 2, 1) := by decide +kernel
theorem dX12_put_107 : decode cX12_put 107 = .ok (.ifCond .eq 21, 3) := by decide +kernel
theorem dX12_put_110 : decode cX12_put 110 = .ok (.iload 4, 2) := by decide +kernel
theorem dX12_put_112 : decode cX12_put 112 = .ok (.sipush 188, 3) := by decide +kernel
theorem dX12_put_115 : decode cX12_put 115 = .ok (.if_icmp .ne 13, 3) := by decide +kernel
theorem dX12_put_118 : decode cX12_put 118 = .ok (.aload_n 0, 1) := by decide +kernel
theorem dX12_put_119 : decode cX12_put 119 = .ok (.getfield 90, 3) := by decide +kernel
theorem dX12_put_122 : decode cX12_put 122 = .ok (.iload 5, 2) := by decide +kernel
theorem dX12_put_124 : decode cX12_put 124 = .ok (.sipush 203, 3) := by decide +kernel
theorem dX12_put_127 : decode cX12_put 127 = .ok (.iastore, 1) := by decide +kernel
theorem dX12_put_128 : decode cX12_put 128 = .ok (.aload_n 0, 1) := by decide +kernel
theorem dX12_put_129 : decode cX12_put 129 = .ok (.getfield 84, 3) := by decide +kernel
theorem dX12_put_132 : decode cX12_put 132 = .ok (.iload_n 3, 1) := by decide +kernel
theorem dX12_put_133 : decode cX12_put 133 = .ok (.iaload, 1) := by decide +kernel
theorem dX12_put_134 : decode cX12_put 134 = .ok (.istore 5, 2) := by decide +kernel
theorem dX12_put_136 : decode cX12_put 136 = .ok (.iload 4, 2) := by decide +kernel
theorem dX12_put_138 : decode cX12_put 138 = .ok (.invokestatic 161, 3) := by decide +kernel
theorem dX12_put_141 : decode cX12_put 141 = .ok (.ifCond .eq 14, 3) := by decide +kernel
theorem dX12_put_144 : decode cX12_put 144 = .ok (.aload_n 0, 1) := by decide +kernel
theorem dX12_put_145 : decode cX12_put 145 = .ok (.iload_n 1, 1) := by decide +kernel
theorem dX12_put_146 : decode cX12_put 146 = .ok (.iload_n 3, 1) := by decide +kernel
theorem dX12_put_147 : decode cX12_put 147 = .ok (.iload 5, 2) := by decide +kernel
theorem dX12_put_149 : decode cX12_put 149 = .ok (.invokevirtual 227, 3) := by decide +kernel
theorem dX12_put_152 : decode cX12_put 152 = .ok (.goto 47, 3) := by decide +kernel
theorem dX12_put_155 : decode cX12_put 155 = .ok (.iconst 0, 1) := by decide +kernel
theorem dX12_put_156 : decode cX12_put 156 = .ok (.istore 6, 2) := by decide +kernel
theorem dX12_put_158 : decode cX12_put 158 = .ok (.iload 6, 2) := by decide +kernel
theorem dX12_put_160 : decode cX12_put 160 = .ok (.iload 4, 2) := by decide +kernel
theorem dX12_put_162 : decode cX12_put 162 = .ok (.invokestatic 120, 3) := by decide +kernel
theorem dX12_put_165 : decode cX12_put 165 = .ok (.if_icmp .ge 34, 3) := by decide +kernel
theorem dX12_put_168 : decode cX12_put 168 = .ok (.aload_n 0, 1) := by decide +kernel
theorem dX12_put_169 : decode cX12_put 169 = .ok (.getfield 90, 3) := by decide +kernel
theorem dX12_put_172 : decode cX12_put 172 = .ok (.iload 5, 2) := by decide +kernel
theorem dX12_put_174 : decode cX12_put 174 = .ok (.iload 6, 2) := by decide +kernel
theorem dX12_put_176 : decode cX12_put 176 = .ok (.iadd, 1) := by decide +kernel
theorem dX12_put_177 : decode cX12_put 177 = .ok (.aload_n 0, 1) := by decide +kernel
theorem dX12_put_178 : decode cX12_put 178 = .ok (.getfield 32, 3) := by decide +kernel
theorem dX12_put_181 : decode cX12_put 181 = .ok (.sipush 2001, 3) := by decide +kernel
theorem dX12_put_184 : decode cX12_put 184 = .ok (.iload_n 1, 1) := by decide +kernel
theorem dX12_put_185 : decode cX12_put 185 = .ok (.imul, 1) := by decide +kernel
theorem dX12_put_186 : decode cX12_put 186 = .ok (.iload_n 3, 1) := by decide +kernel
theorem dX12_put_187 : decode cX12_put 187 = .ok (.iadd, 1) := by decide +kernel
theorem dX12_put_188 : decode cX12_put 188 = .ok (.iload 6, 2) := by decide +kernel
theorem dX12_put_190 : decode cX12_put 190 = .ok (.iadd, 1) := by decide +kernel
theorem dX12_put_191 : decode cX12_put 191 = .ok (.iaload, 1) := by decide +kernel
theorem dX12_put_192 : decode cX12_put 192 = .ok (.iastore, 1) := by decide +kernel
theorem dX12_put_193 : decode cX12_put 193 = .ok (.iinc 6 1, 3) := by decide +kernel
theorem dX12_put_196 : decode cX12_put 196 = .ok (.goto (-38), 3) := by decide +kernel
theorem dX12_put_199 : decode cX12_put 199 = .ok (.iload_n 3, 1) := by decide +kernel
theorem dX12_put_200 : decode cX12_put 200 = .ok (.iload 4, 2) := by decide +kernel
theorem dX12_put_202 : decode cX12_put 202 = .ok (.invokestatic 120, 3) := by decide +kernel
theorem dX12_put_205 : decode cX12_put 205 = .ok (.iadd, 1) := by decide +kernel
theorem dX12_put_206 : decode cX12_put 206 = .ok (.istore_n 3, 1) := by decide +kernel
theorem dX12_put_207 : decode cX12_put 207 = .ok (.goto (-200), 3) := by decide +kernel
theorem dX12_put_210 : decode cX12_put 210 = .ok (.return_, 1) := by decide +kernel
abbrev wcX12_put : List Cond := .code yX12_put cX12_put 8 none :: wsL_law
def lX12_put_158 : Nat → Nat → Int32 → Int32 → Int32 → Int32 → Int32 → Int32 → hs_S → Option (hs_S)
  | 0, _, _, _, _, _, _, _, _ => none
  | n + 1, v0, v1, v2, v3, v4, v5, v6, g =>
    hs_bd (fX12_size v4 g) fun r24 g23 =>
    if r24 ≤ v6 then (
      some g23
    ) else (
      if hs_kd g23 v0 = 10 then
      if ¬ (hs_R g23 v0 30) = 0 then
      if ¬ (hs_R g23 v0 10) = 0 then
      if hs_kd g23 ((hs_R g23 v0 10) - 1) = 100 then
      if hs_in ((((2001 : Int32) * v1) + v3) + v6) (hs_ln g23 ((hs_R g23 v0 10) - 1)) = true then
      if hs_kd g23 ((hs_R g23 v0 30) - 1) = 100 then
      if hs_in (v5 + v6) (hs_ln g23 ((hs_R g23 v0 30) - 1)) = true then
      hs_bv (some (hs_wI g23 ((hs_R g23 v0 30) - 1) (v5 + v6).toNatClampNeg (hs_I g23 ((hs_R g23 v0 10) - 1) ((((2001 : Int32) * v1) + v3) + v6).toNatClampNeg))) fun g33 =>
      lX12_put_158 n v0 v1 v2 v3 v4 v5 (v6 + (1 : Int32)) g33
      else none else none else none else none else none else none else none
    )
theorem lX12_put_158_s (n : Nat) (v0 : Nat) (v1 : Int32) (v2 : Int32) (v3 : Int32) (v4 : Int32) (v5 : Int32) (v6 : Int32) (g : hs_S) : lX12_put_158 (n + 1) v0 v1 v2 v3 v4 v5 v6 g =
    hs_bd (fX12_size v4 g) fun r24 g23 =>
    if r24 ≤ v6 then (
      some g23
    ) else (
      if hs_kd g23 v0 = 10 then
      if ¬ (hs_R g23 v0 30) = 0 then
      if ¬ (hs_R g23 v0 10) = 0 then
      if hs_kd g23 ((hs_R g23 v0 10) - 1) = 100 then
      if hs_in ((((2001 : Int32) * v1) + v3) + v6) (hs_ln g23 ((hs_R g23 v0 10) - 1)) = true then
      if hs_kd g23 ((hs_R g23 v0 30) - 1) = 100 then
      if hs_in (v5 + v6) (hs_ln g23 ((hs_R g23 v0 30) - 1)) = true then
      hs_bv (some (hs_wI g23 ((hs_R g23 v0 30) - 1) (v5 + v6).toNatClampNeg (hs_I g23 ((hs_R g23 v0 10) - 1) ((((2001 : Int32) * v1) + v3) + v6).toNatClampNeg))) fun g33 =>
      lX12_put_158 n v0 v1 v2 v3 v4 v5 (v6 + (1 : Int32)) g33
      else none else none else none else none else none else none else none
    ) := rfl
def jX12_put_199 (rec : Int32 → hs_S → Option (hs_S)) (v0 : Nat) (v1 : Int32) (v2 : Int32) (v3 : Int32) (v4 : Int32) (g : hs_S) : Option (hs_S) :=
  hs_bd (fX12_size v4 g) fun r44 g43 =>
  rec (v3 + r44) g43
def jX12_put_128 (rec : Int32 → hs_S → Option (hs_S)) (v0 : Nat) (v1 : Int32) (v2 : Int32) (v3 : Int32) (v4 : Int32) (g : hs_S) : Option (hs_S) :=
  if hs_kd g v0 = 10 then
  if ¬ (hs_R g v0 28) = 0 then
  if hs_kd g ((hs_R g v0 28) - 1) = 100 then
  if hs_in v3 (hs_ln g ((hs_R g v0 28) - 1)) = true then
  hs_bd (fX12_isJump v4 g) fun r21 g20 =>
  if r21 = 0 then (
    hs_bv (lX12_put_158 hs_N v0 v1 v2 v3 v4 (hs_I g ((hs_R g v0 28) - 1) v3.toNatClampNeg) (0 : Int32) g20) fun g41 =>
    jX12_put_199 rec v0 v1 v2 v3 v4 g41
  ) else (
    if hs_kd g20 v0 = 10 then
    hs_bv (fX12_putJump v0 v1 v3 (hs_I g ((hs_R g v0 28) - 1) v3.toNatClampNeg) g20) fun g47 =>
    jX12_put_199 rec v0 v1 v2 v3 v4 g47
    else none
  )
  else none else none else none else none
def jX12_put_106 (rec : Int32 → hs_S → Option (hs_S)) (v0 : Nat) (v1 : Int32) (v2 : Int32) (v3 : Int32) (v4 : Int32) (v5 : Int32) (g : hs_S) : Option (hs_S) :=
  if v2 = 0 then (
    jX12_put_128 rec v0 v1 v2 v3 v4 g
  ) else (
    if v4 = (188 : Int32) then (
      if hs_kd g v0 = 10 then
      if ¬ (hs_R g v0 30) = 0 then
      if hs_kd g ((hs_R g v0 30) - 1) = 100 then
      if hs_in v5 (hs_ln g ((hs_R g v0 30) - 1)) = true then
      jX12_put_128 rec v0 v1 v2 v3 v4 (hs_wI g ((hs_R g v0 30) - 1) v5.toNatClampNeg (203 : Int32))
      else none else none else none else none
    ) else (
      jX12_put_128 rec v0 v1 v2 v3 v4 g
    )
  )
def lX12_put_64 : Nat → Nat → Int32 → Int32 → Int32 → Int32 → Int32 → Int32 → Int32 → hs_S → Option (hs_S)
  | 0, _, _, _, _, _, _, _, _, _ => none
  | n + 1, v0, v1, v2, v3, v4, v5, v6, v7, g =>
    if (4 : Int32) ≤ v7 then (
      some g
    ) else (
      if hs_kd g v0 = 10 then
      if ¬ (hs_R g v0 30) = 0 then
      if hs_kd g ((hs_R g v0 30) - 1) = 100 then
      if hs_in ((v5 + (1 : Int32)) + v7) (hs_ln g ((hs_R g v0 30) - 1)) = true then
      hs_bv (some (hs_wI g ((hs_R g v0 30) - 1) ((v5 + (1 : Int32)) + v7).toNatClampNeg ((v6 >>> (((24 : Int32) - ((8 : Int32) * v7)) &&& 31)) &&& (255 : Int32)))) fun g71 =>
      lX12_put_64 n v0 v1 v2 v3 v4 v5 v6 (v7 + (1 : Int32)) g71
      else none else none else none else none
    )
theorem lX12_put_64_s (n : Nat) (v0 : Nat) (v1 : Int32) (v2 : Int32) (v3 : Int32) (v4 : Int32) (v5 : Int32) (v6 : Int32) (v7 : Int32) (g : hs_S) : lX12_put_64 (n + 1) v0 v1 v2 v3 v4 v5 v6 v7 g =
    if (4 : Int32) ≤ v7 then (
      some g
    ) else (
      if hs_kd g v0 = 10 then
      if ¬ (hs_R g v0 30) = 0 then
      if hs_kd g ((hs_R g v0 30) - 1) = 100 then
      if hs_in ((v5 + (1 : Int32)) + v7) (hs_ln g ((hs_R g v0 30) - 1)) = true then
      hs_bv (some (hs_wI g ((hs_R g v0 30) - 1) ((v5 + (1 : Int32)) + v7).toNatClampNeg ((v6 >>> (((24 : Int32) - ((8 : Int32) * v7)) &&& 31)) &&& (255 : Int32)))) fun g71 =>
      lX12_put_64 n v0 v1 v2 v3 v4 v5 v6 (v7 + (1 : Int32)) g71
      else none else none else none else none
    ) := rfl
def lX12_put_7 : Nat → Nat → Int32 → Int32 → Int32 → hs_S → Option (hs_S)
  | 0, _, _, _, _, _ => none
  | n + 1, v0, v1, v2, v3, g =>
    if hs_kd g v0 = 10 then
    if ¬ (hs_R g v0 7) = 0 then
    if hs_kd g ((hs_R g v0 7) - 1) = 100 then
    if hs_in v1 (hs_ln g ((hs_R g v0 7) - 1)) = true then
    if (hs_I g ((hs_R g v0 7) - 1) v1.toNatClampNeg) ≤ v3 then (
      some g
    ) else (
      hs_bd (fX12_kindAt v0 v1 v3 g) fun r7 g6 =>
      if hs_kd g6 v0 = 10 then
      if ¬ (hs_R g6 v0 27) = 0 then
      if hs_kd g6 ((hs_R g6 v0 27) - 1) = 100 then
      if hs_in v3 (hs_ln g6 ((hs_R g6 v0 27) - 1)) = true then
      hs_bd (fX12_paidAt v0 v1 v3 v2 g6) fun r14 g13 =>
      if r14 ≤ 0 then (
        jX12_put_106 (fun y0 g => lX12_put_7 n v0 v1 v2 y0 g) v0 v1 v2 v3 r7 (hs_I g6 ((hs_R g6 v0 27) - 1) v3.toNatClampNeg) g13
      ) else (
        if hs_kd g13 v0 = 10 then
        hs_bd (fX12_sum v0 v1 v3 g13) fun r56 g55 =>
        if hs_kd g55 v0 = 10 then
        if ¬ (hs_R g55 v0 30) = 0 then
        if hs_kd g55 ((hs_R g55 v0 30) - 1) = 100 then
        if hs_in (hs_I g6 ((hs_R g6 v0 27) - 1) v3.toNatClampNeg) (hs_ln g55 ((hs_R g55 v0 30) - 1)) = true then
        hs_bv (some (hs_wI g55 ((hs_R g55 v0 30) - 1) (hs_I g6 ((hs_R g6 v0 27) - 1) v3.toNatClampNeg).toNatClampNeg (202 : Int32))) fun g62 =>
        hs_bv (lX12_put_64 hs_N v0 v1 v2 v3 r7 (hs_I g6 ((hs_R g6 v0 27) - 1) v3.toNatClampNeg) r56 (0 : Int32) g62) fun g77 =>
        jX12_put_106 (fun y0 g => lX12_put_7 n v0 v1 v2 y0 g) v0 v1 v2 v3 r7 ((hs_I g6 ((hs_R g6 v0 27) - 1) v3.toNatClampNeg) + (5 : Int32)) g77
        else none else none else none else none else none
      )
      else none else none else none else none
    )
    else none else none else none else none
theorem lX12_put_7_s (n : Nat) (v0 : Nat) (v1 : Int32) (v2 : Int32) (v3 : Int32) (g : hs_S) : lX12_put_7 (n + 1) v0 v1 v2 v3 g =
    if hs_kd g v0 = 10 then
    if ¬ (hs_R g v0 7) = 0 then
    if hs_kd g ((hs_R g v0 7) - 1) = 100 then
    if hs_in v1 (hs_ln g ((hs_R g v0 7) - 1)) = true then
    if (hs_I g ((hs_R g v0 7) - 1) v1.toNatClampNeg) ≤ v3 then (
      some g
    ) else (
      hs_bd (fX12_kindAt v0 v1 v3 g) fun r7 g6 =>
      if hs_kd g6 v0 = 10 then
      if ¬ (hs_R g6 v0 27) = 0 then
      if hs_kd g6 ((hs_R g6 v0 27) - 1) = 100 then
      if hs_in v3 (hs_ln g6 ((hs_R g6 v0 27) - 1)) = true then
      hs_bd (fX12_paidAt v0 v1 v3 v2 g6) fun r14 g13 =>
      if r14 ≤ 0 then (
        jX12_put_106 (fun y0 g => lX12_put_7 n v0 v1 v2 y0 g) v0 v1 v2 v3 r7 (hs_I g6 ((hs_R g6 v0 27) - 1) v3.toNatClampNeg) g13
      ) else (
        if hs_kd g13 v0 = 10 then
        hs_bd (fX12_sum v0 v1 v3 g13) fun r56 g55 =>
        if hs_kd g55 v0 = 10 then
        if ¬ (hs_R g55 v0 30) = 0 then
        if hs_kd g55 ((hs_R g55 v0 30) - 1) = 100 then
        if hs_in (hs_I g6 ((hs_R g6 v0 27) - 1) v3.toNatClampNeg) (hs_ln g55 ((hs_R g55 v0 30) - 1)) = true then
        hs_bv (some (hs_wI g55 ((hs_R g55 v0 30) - 1) (hs_I g6 ((hs_R g6 v0 27) - 1) v3.toNatClampNeg).toNatClampNeg (202 : Int32))) fun g62 =>
        hs_bv (lX12_put_64 hs_N v0 v1 v2 v3 r7 (hs_I g6 ((hs_R g6 v0 27) - 1) v3.toNatClampNeg) r56 (0 : Int32) g62) fun g77 =>
        jX12_put_106 (fun y0 g => lX12_put_7 n v0 v1 v2 y0 g) v0 v1 v2 v3 r7 ((hs_I g6 ((hs_R g6 v0 27) - 1) v3.toNatClampNeg) + (5 : Int32)) g77
        else none else none else none else none else none
      )
      else none else none else none else none
    )
    else none else none else none else none := rfl
def fX12_put (v0 : Nat) (v1 : Int32) (v2 : Int32) (g : hs_S) : Option (hs_S) :=
  if hs_kd g v0 = 10 then
  hs_bv (lX12_put_7 hs_N v0 v1 v2 (0 : Int32) (hs_wI g v0 31 (0 : Int32))) fun g80 =>
  some g80
  else none
abbrev rmX12_put : Room := { frames := 4, cells := 0, slots := 0, locals := 93 }
set_option maxHeartbeats 4000000 in
set_option maxRecDepth 100000 in
theorem wX12_put_158 {p : Program} {l : Launch} {e : Env} {s : State} {m : MethodId} {args : Array Value} {below : List Frame} {meth : Method} {c : Code} {B : Nat} {D : va_G} {E : Nat → ClassId} (hX : hs_cx cX12_put none 8 RX12 wcX12_put p s m args meth c D E) {Q : State → Prop} {o : hs_S} {v0 : Nat} {v1 : Int32} {v2 : Int32} {v3 : Int32} {v4 : Int32} {v5 : Int32} (hex0 : ∀ (H : Heap) (locs : List Loc) (ls : Array Slot), hs_P B D E (o) H → hs_Sx B s.heap H locs → lv_has ls 8 [(0, .ref (B + v0)), (1, .int v1), (2, .int v2), (3, .int v3), (4, .int v4)] → W p l e rmX12_put s m args below meth c H locs 0 0 Q (F0 m 199 ls [])) : ∀ (n : Nat) (v6 : Int32) (g : hs_S), lX12_put_158 n v0 v1 v2 v3 v4 v5 v6 g = some o → ∀ (H : Heap) (locs : List Loc) (ls : Array Slot), hs_P B D E g H → hs_Sx B s.heap H locs → lv_has ls 8 [(0, .ref (B + v0)), (1, .int v1), (2, .int v2), (3, .int v3), (4, .int v4), (5, .int v5), (6, .int v6)] → W p l e rmX12_put s m args below meth c H locs 0 0 Q (F0 m 158 ls []) := by
  obtain ⟨hx, hb, hr, hml, hown, hts, hlocks, hK⟩ := id hX
  intro n
  induction n with
  | zero =>
    intro v6 g hf
    cases hf
  | succ n ih =>
    intro v6 g hf H locs ls hP hS hl
    replace hf := (lX12_put_158_s n v0 v1 v2 v3 v4 v5 v6 g).symm.trans hf
    refine lv_iload hx hb dX12_put_158 (lv_at hl 6 rfl) ?_
    refine lv_iload hx hb dX12_put_160 (lv_at hl 4 rfl) ?_
    obtain ⟨r24, g23, h25, hf⟩ := hs_bd_some hf
    refine hs_calli (va_runS (As := [.int v4]) (rest := [.int v6]) ⟨hx, hb, hml, hown, hts⟩ (ctX12_size l B D E v4 g _ h25) (va_cwS 1 hts (hs_gS (fun _ h => List.mem_cons_of_mem _ h) wq423 wq424 wq5 wq425) rfl rfl rfl (by decide +kernel) ⟨Nat.le_of_ble_eq_true rfl, Nat.le_of_ble_eq_true rfl⟩) (hs_pre hP hK) rfl rfl hl.1 rfl (lv_room (Nat.le_of_ble_eq_true rfl)) dX12_put_162 ⟨(Nat.le_of_ble_eq_true rfl), (Nat.le_of_ble_eq_true rfl)⟩) hS (fun H locs hP hS => ?_)
    refine lv_icmp_ge (tgt := 199) hx hb dX12_put_165 (by decide) (fun hc => ?_) (fun hc => ?_)
    · replace hf := hs_t hf hc
      obtain rfl := Option.some.inj hf
      exact hex0 _ _ _ hP hS (lv_sub hl [0, 1, 2, 3, 4] rfl)
    · replace hf := hs_f hf hc
      refine lv_aload_n hx hb dX12_put_168 rfl (lv_at hl 0 rfl) ?_
      obtain ⟨h26, hf⟩ := hs_ck hf
      obtain ⟨h27, hf⟩ := hs_ck hf
      refine hs_getr (C := RX12) (T := TX12) (N := 48) hx hb hts (fun w h => List.mem_cons_of_mem _ (inlX12 w h)) hown hK.1 hP h26 (by decide) rfl 30 (by decide) (hts _ (List.mem_cons_of_mem _ wq148)) (fun _ h => h) rfl h27 dX12_put_169 ?_
      refine lv_iload hx hb dX12_put_172 (lv_at hl 5 rfl) ?_
      refine lv_iload hx hb dX12_put_174 (lv_at hl 6 rfl) ?_
      refine lv_iadd hx hb dX12_put_176 ?_
      refine lv_aload_n hx hb dX12_put_177 rfl (lv_at hl 0 rfl) ?_
      obtain ⟨h28, hf⟩ := hs_ck hf
      refine hs_getr (C := RX12) (T := TX12) (N := 48) hx hb hts (fun w h => List.mem_cons_of_mem _ (inlX12 w h)) hown hK.1 hP h26 (by decide) rfl 10 (by decide) (hts _ (List.mem_cons_of_mem _ wq128)) (fun _ h => h) rfl h28 dX12_put_178 ?_
      refine lv_sipush (v := 2001) hx hb dX12_put_181 (by decide) ?_
      refine lv_iload_n hx hb dX12_put_184 rfl (lv_at hl 1 rfl) ?_
      refine lv_imul hx hb dX12_put_185 ?_
      refine lv_iload_n hx hb dX12_put_186 rfl (lv_at hl 3 rfl) ?_
      refine lv_iadd hx hb dX12_put_187 ?_
      refine lv_iload hx hb dX12_put_188 (lv_at hl 6 rfl) ?_
      refine lv_iadd hx hb dX12_put_190 ?_
      obtain ⟨h29, hf⟩ := hs_ck hf
      obtain ⟨h30, hf⟩ := hs_ck hf
      refine hs_iald hx hb hK.1 hP h29 h30 dX12_put_191 ?_
      obtain ⟨h31, hf⟩ := hs_ck hf
      obtain ⟨h32, hf⟩ := hs_ck hf
      refine hs_iast hx hb hK.1 hP hS h31 h32 dX12_put_192 (fun H locs hP hS => ?_)
      obtain ⟨g33, e34, hf⟩ := hs_bv_some hf
      replace e34 := Option.some.inj e34
      rw [e34] at hP
      have h35 : hs_kd g33 v0 = 10 := by rw [← e34]; exact h26
      have h36 : hs_kd g33 ((hs_R g23 v0 10) - 1) = 100 := by rw [← e34]; exact h29
      have h37 : hs_in ((((2001 : Int32) * v1) + v3) + v6) (hs_ln g33 ((hs_R g23 v0 10) - 1)) = true := by rw [← e34]; exact h30
      have h38 : hs_kd g33 ((hs_R g23 v0 30) - 1) = 100 := by rw [← e34]; exact h31
      have h39 : hs_in (v5 + v6) (hs_ln g33 ((hs_R g23 v0 30) - 1)) = true := by rw [← e34]; exact h32
      refine lv_iinc (v := (v6 + (1 : Int32))) (lv' := [(6, .int (v6 + (1 : Int32))), (0, .ref (B + v0)), (1, .int v1), (2, .int v2), (3, .int v3), (4, .int v4), (5, .int v5)]) hx hb dX12_put_193 hl (k := 6) rfl (by rfl) (by decide) rfl (fun ls hl => ?_)
      refine lv_goto (tgt := 158) hx hb dX12_put_196 (by decide) ?_
      exact ih _ _ hf _ _ _ hP hS (lv_sub hl [1, 2, 3, 4, 5, 6, 0] rfl)

set_option maxHeartbeats 4000000 in
set_option maxRecDepth 100000 in
theorem wX12_put_j199 {p : Program} {l : Launch} {e : Env} {s : State} {m : MethodId} {args : Array Value} {below : List Frame} {meth : Method} {c : Code} {B : Nat} {D : va_G} {E : Nat → ClassId} (hX : hs_cx cX12_put none 8 RX12 wcX12_put p s m args meth c D E) {Q : State → Prop} {o : hs_S} {rec : Int32 → hs_S → Option (hs_S)} {v0 : Nat} {v1 : Int32} {v2 : Int32} {v3 : Int32} {v4 : Int32}  (hrec : ∀ (y0 : Int32) (g : hs_S) (H : Heap) (locs : List Loc) (ls : Array Slot), rec y0 g = some o → hs_P B D E g H → hs_Sx B s.heap H locs → lv_has ls 8 [(0, .ref (B + v0)), (1, .int v1), (2, .int v2), (3, .int y0)] → W p l e rmX12_put s m args below meth c H locs 0 0 Q (F0 m 7 ls [])) (hex0 : ∀ (H : Heap) (locs : List Loc) (ls : Array Slot), hs_P B D E (o) H → hs_Sx B s.heap H locs → lv_has ls 8 [] → W p l e rmX12_put s m args below meth c H locs 0 0 Q (F0 m 210 ls [])) {g : hs_S} {H : Heap} {locs : List Loc} {ls : Array Slot} (hf : jX12_put_199 rec v0 v1 v2 v3 v4 g = some o) (hP : hs_P B D E g H) (hS : hs_Sx B s.heap H locs) (hl : lv_has ls 8 [(0, .ref (B + v0)), (1, .int v1), (2, .int v2), (3, .int v3), (4, .int v4)]) : W p l e rmX12_put s m args below meth c H locs 0 0 Q (F0 m 199 ls []) := by
  obtain ⟨hx, hb, hr, hml, hown, hts, hlocks, hK⟩ := id hX
  unfold jX12_put_199 at hf
  refine lv_iload_n hx hb dX12_put_199 rfl (lv_at hl 3 rfl) ?_
  refine lv_iload hx hb dX12_put_200 (lv_at hl 4 rfl) ?_
  obtain ⟨r44, g43, h45, hf⟩ := hs_bd_some hf
  refine hs_calli (va_runS (As := [.int v4]) (rest := [.int v3]) ⟨hx, hb, hml, hown, hts⟩ (ctX12_size l B D E v4 g _ h45) (va_cwS 1 hts (hs_gS (fun _ h => List.mem_cons_of_mem _ h) wq423 wq424 wq5 wq425) rfl rfl rfl (by decide +kernel) ⟨Nat.le_of_ble_eq_true rfl, Nat.le_of_ble_eq_true rfl⟩) (hs_pre hP hK) rfl rfl hl.1 rfl (lv_room (Nat.le_of_ble_eq_true rfl)) dX12_put_202 ⟨(Nat.le_of_ble_eq_true rfl), (Nat.le_of_ble_eq_true rfl)⟩) hS (fun H locs hP hS => ?_)
  refine lv_iadd hx hb dX12_put_205 ?_
  refine lv_istore_n (lv' := [(3, .int (v3 + r44)), (0, .ref (B + v0)), (1, .int v1), (2, .int v2), (4, .int v4)]) hx hb dX12_put_206 rfl hl (by decide) rfl (fun ls hl => ?_)
  refine lv_goto (tgt := 7) hx hb dX12_put_207 (by decide) ?_
  exact hrec _ _ _ _ _ hf hP hS (lv_sub hl [1, 2, 3, 0] rfl)

set_option maxHeartbeats 4000000 in
set_option maxRecDepth 100000 in
theorem wX12_put_j128 {p : Program} {l : Launch} {e : Env} {s : State} {m : MethodId} {args : Array Value} {below : List Frame} {meth : Method} {c : Code} {B : Nat} {D : va_G} {E : Nat → ClassId} (hX : hs_cx cX12_put none 8 RX12 wcX12_put p s m args meth c D E) {Q : State → Prop} {o : hs_S} {rec : Int32 → hs_S → Option (hs_S)} {v0 : Nat} {v1 : Int32} {v2 : Int32} {v3 : Int32} {v4 : Int32}  (hrec : ∀ (y0 : Int32) (g : hs_S) (H : Heap) (locs : List Loc) (ls : Array Slot), rec y0 g = some o → hs_P B D E g H → hs_Sx B s.heap H locs → lv_has ls 8 [(0, .ref (B + v0)), (1, .int v1), (2, .int v2), (3, .int y0)] → W p l e rmX12_put s m args below meth c H locs 0 0 Q (F0 m 7 ls [])) (hex0 : ∀ (H : Heap) (locs : List Loc) (ls : Array Slot), hs_P B D E (o) H → hs_Sx B s.heap H locs → lv_has ls 8 [] → W p l e rmX12_put s m args below meth c H locs 0 0 Q (F0 m 210 ls [])) {g : hs_S} {H : Heap} {locs : List Loc} {ls : Array Slot} (hf : jX12_put_128 rec v0 v1 v2 v3 v4 g = some o) (hP : hs_P B D E g H) (hS : hs_Sx B s.heap H locs) (hl : lv_has ls 8 [(0, .ref (B + v0)), (1, .int v1), (2, .int v2), (3, .int v3), (4, .int v4)]) : W p l e rmX12_put s m args below meth c H locs 0 0 Q (F0 m 128 ls []) := by
  obtain ⟨hx, hb, hr, hml, hown, hts, hlocks, hK⟩ := id hX
  unfold jX12_put_128 at hf
  refine lv_aload_n hx hb dX12_put_128 rfl (lv_at hl 0 rfl) ?_
  obtain ⟨h16, hf⟩ := hs_ck hf
  obtain ⟨h17, hf⟩ := hs_ck hf
  refine hs_getr (C := RX12) (T := TX12) (N := 48) hx hb hts (fun w h => List.mem_cons_of_mem _ (inlX12 w h)) hown hK.1 hP h16 (by decide) rfl 28 (by decide) (hts _ (List.mem_cons_of_mem _ wq146)) (fun _ h => h) rfl h17 dX12_put_129 ?_
  refine lv_iload_n hx hb dX12_put_132 rfl (lv_at hl 3 rfl) ?_
  obtain ⟨h18, hf⟩ := hs_ck hf
  obtain ⟨h19, hf⟩ := hs_ck hf
  refine hs_iald hx hb hK.1 hP h18 h19 dX12_put_133 ?_
  refine lv_istore (lv' := [(5, .int (hs_I g ((hs_R g v0 28) - 1) v3.toNatClampNeg)), (0, .ref (B + v0)), (1, .int v1), (2, .int v2), (3, .int v3), (4, .int v4)]) hx hb dX12_put_134 hl (by decide) rfl (fun ls hl => ?_)
  refine lv_iload hx hb dX12_put_136 (lv_at hl 5 rfl) ?_
  obtain ⟨r21, g20, h22, hf⟩ := hs_bd_some hf
  refine hs_calli (va_runS (As := [.int v4]) (rest := []) ⟨hx, hb, hml, hown, hts⟩ (ctX12_isJump l B D E v4 g _ h22) (va_cwS 1 hts (hs_gS (fun _ h => List.mem_cons_of_mem _ h) wq430 wq431 wq5 wq432) rfl rfl rfl (by decide +kernel) ⟨Nat.le_of_ble_eq_true rfl, Nat.le_of_ble_eq_true rfl⟩) (hs_pre hP hK) rfl rfl hl.1 rfl (lv_room (Nat.le_of_ble_eq_true rfl)) dX12_put_138 ⟨(Nat.le_of_ble_eq_true rfl), (Nat.le_of_ble_eq_true rfl)⟩) hS (fun H locs hP hS => ?_)
  refine lv_if_eq (tgt := 155) hx hb dX12_put_141 (by decide) (fun hc => ?_) (fun hc => ?_)
  · replace hf := hs_t hf hc
    refine lv_iconst (v := 0) hx hb dX12_put_155 (by decide) ?_
    refine lv_istore (lv' := [(6, .int (0 : Int32)), (5, .int (hs_I g ((hs_R g v0 28) - 1) v3.toNatClampNeg)), (0, .ref (B + v0)), (1, .int v1), (2, .int v2), (3, .int v3), (4, .int v4)]) hx hb dX12_put_156 hl (by decide) rfl (fun ls hl => ?_)
    obtain ⟨g41, h42, hf⟩ := hs_bv_some hf
    refine wX12_put_158 hX (fun H locs ls hP hS hl => ?_) hs_N _ _ h42 _ _ _ hP hS (lv_sub hl [2, 3, 4, 5, 6, 1, 0] rfl)
    exact wX12_put_j199 hX hrec hex0 hf hP hS (lv_sub hl [0, 1, 2, 3, 4] rfl)
  · replace hf := hs_f hf hc
    refine lv_aload_n hx hb dX12_put_144 rfl (lv_at hl 1 rfl) ?_
    refine lv_iload_n hx hb dX12_put_145 rfl (lv_at hl 2 rfl) ?_
    refine lv_iload_n hx hb dX12_put_146 rfl (lv_at hl 4 rfl) ?_
    refine lv_iload hx hb dX12_put_147 (lv_at hl 0 rfl) ?_
    obtain ⟨h46, hf⟩ := hs_ck hf
    obtain ⟨g47, h49, hf⟩ := hs_bv_some hf
    refine hs_callv (va_runV (As := [.int v1, .int v3, .int (hs_I g ((hs_R g v0 28) - 1) v3.toNatClampNeg)]) (rest := []) ⟨hx, hb, hml, hown, hts⟩ (ctX12_putJump l B D E v0 v1 v3 (hs_I g ((hs_R g v0 28) - 1) v3.toNatClampNeg) g20 _ h49) (cwV 3 hts (hs_gV (fun _ h => List.mem_cons_of_mem _ h) wq627 wq628 wq629 wq5 wq630) rfl rfl rfl (by decide +kernel) ⟨Nat.le_of_ble_eq_true rfl, Nat.le_of_ble_eq_true rfl⟩) (hs_preV (r := (RX12, TX12, 48)) hP hK h46 (by decide) rfl) rfl rfl hl.1 rfl (lv_room (Nat.le_of_ble_eq_true rfl)) dX12_put_149 ⟨(Nat.le_of_ble_eq_true rfl), (Nat.le_of_ble_eq_true rfl)⟩) hS (fun H locs hP hS => ?_)
    refine lv_goto (tgt := 199) hx hb dX12_put_152 (by decide) ?_
    exact wX12_put_j199 hX hrec hex0 hf hP hS (lv_sub hl [1, 2, 3, 4, 5] rfl)

set_option maxHeartbeats 4000000 in
set_option maxRecDepth 100000 in
theorem wX12_put_j106 {p : Program} {l : Launch} {e : Env} {s : State} {m : MethodId} {args : Array Value} {below : List Frame} {meth : Method} {c : Code} {B : Nat} {D : va_G} {E : Nat → ClassId} (hX : hs_cx cX12_put none 8 RX12 wcX12_put p s m args meth c D E) {Q : State → Prop} {o : hs_S} {rec : Int32 → hs_S → Option (hs_S)} {v0 : Nat} {v1 : Int32} {v2 : Int32} {v3 : Int32} {v4 : Int32} {v5 : Int32}  (hrec : ∀ (y0 : Int32) (g : hs_S) (H : Heap) (locs : List Loc) (ls : Array Slot), rec y0 g = some o → hs_P B D E g H → hs_Sx B s.heap H locs → lv_has ls 8 [(0, .ref (B + v0)), (1, .int v1), (2, .int v2), (3, .int y0)] → W p l e rmX12_put s m args below meth c H locs 0 0 Q (F0 m 7 ls [])) (hex0 : ∀ (H : Heap) (locs : List Loc) (ls : Array Slot), hs_P B D E (o) H → hs_Sx B s.heap H locs → lv_has ls 8 [] → W p l e rmX12_put s m args below meth c H locs 0 0 Q (F0 m 210 ls [])) {g : hs_S} {H : Heap} {locs : List Loc} {ls : Array Slot} (hf : jX12_put_106 rec v0 v1 v2 v3 v4 v5 g = some o) (hP : hs_P B D E g H) (hS : hs_Sx B s.heap H locs) (hl : lv_has ls 8 [(0, .ref (B + v0)), (1, .int v1), (2, .int v2), (3, .int v3), (4, .int v4), (5, .int v5)]) : W p l e rmX12_put s m args below meth c H locs 0 0 Q (F0 m 106 ls []) := by
  obtain ⟨hx, hb, hr, hml, hown, hts, hlocks, hK⟩ := id hX
  unfold jX12_put_106 at hf
  refine lv_iload_n hx hb dX12_put_106 rfl (lv_at hl 2 rfl) ?_
  refine lv_if_eq (tgt := 128) hx hb dX12_put_107 (by decide) (fun hc => ?_) (fun hc => ?_)
  · replace hf := hs_t hf hc
    exact wX12_put_j128 hX hrec hex0 hf hP hS (lv_sub hl [0, 1, 2, 3, 4] rfl)
  · replace hf := hs_f hf hc
    refine lv_iload hx hb dX12_put_110 (lv_at hl 4 rfl) ?_
    refine lv_sipush (v := 188) hx hb dX12_put_112 (by decide) ?_
    refine lv_icmp_ne (tgt := 128) hx hb dX12_put_115 (by decide) (fun hc => ?_) (fun hc => ?_)
    · replace hf := hs_f hf hc
      exact wX12_put_j128 hX hrec hex0 hf hP hS (lv_sub hl [0, 1, 2, 3, 4] rfl)
    · replace hf := hs_t hf hc
      refine lv_aload_n hx hb dX12_put_118 rfl (lv_at hl 0 rfl) ?_
      obtain ⟨h50, hf⟩ := hs_ck hf
      obtain ⟨h51, hf⟩ := hs_ck hf
      refine hs_getr (C := RX12) (T := TX12) (N := 48) hx hb hts (fun w h => List.mem_cons_of_mem _ (inlX12 w h)) hown hK.1 hP h50 (by decide) rfl 30 (by decide) (hts _ (List.mem_cons_of_mem _ wq148)) (fun _ h => h) rfl h51 dX12_put_119 ?_
      refine lv_iload hx hb dX12_put_122 (lv_at hl 5 rfl) ?_
      refine lv_sipush (v := 203) hx hb dX12_put_124 (by decide) ?_
      obtain ⟨h52, hf⟩ := hs_ck hf
      obtain ⟨h53, hf⟩ := hs_ck hf
      refine hs_iast hx hb hK.1 hP hS h52 h53 dX12_put_127 (fun H locs hP hS => ?_)
      exact wX12_put_j128 hX hrec hex0 hf hP hS (lv_sub hl [0, 1, 2, 3, 4] rfl)

set_option maxHeartbeats 4000000 in
set_option maxRecDepth 100000 in
theorem wX12_put_64 {p : Program} {l : Launch} {e : Env} {s : State} {m : MethodId} {args : Array Value} {below : List Frame} {meth : Method} {c : Code} {B : Nat} {D : va_G} {E : Nat → ClassId} (hX : hs_cx cX12_put none 8 RX12 wcX12_put p s m args meth c D E) {Q : State → Prop} {o : hs_S} {v0 : Nat} {v1 : Int32} {v2 : Int32} {v3 : Int32} {v4 : Int32} {v5 : Int32} {v6 : Int32} (hex0 : ∀ (H : Heap) (locs : List Loc) (ls : Array Slot), hs_P B D E (o) H → hs_Sx B s.heap H locs → lv_has ls 8 [(0, .ref (B + v0)), (1, .int v1), (2, .int v2), (3, .int v3), (4, .int v4), (5, .int v5)] → W p l e rmX12_put s m args below meth c H locs 0 0 Q (F0 m 103 ls [])) : ∀ (n : Nat) (v7 : Int32) (g : hs_S), lX12_put_64 n v0 v1 v2 v3 v4 v5 v6 v7 g = some o → ∀ (H : Heap) (locs : List Loc) (ls : Array Slot), hs_P B D E g H → hs_Sx B s.heap H locs → lv_has ls 8 [(0, .ref (B + v0)), (1, .int v1), (2, .int v2), (3, .int v3), (4, .int v4), (5, .int v5), (6, .int v6), (7, .int v7)] → W p l e rmX12_put s m args below meth c H locs 0 0 Q (F0 m 64 ls []) := by
  obtain ⟨hx, hb, hr, hml, hown, hts, hlocks, hK⟩ := id hX
  intro n
  induction n with
  | zero =>
    intro v7 g hf
    cases hf
  | succ n ih =>
    intro v7 g hf H locs ls hP hS hl
    replace hf := (lX12_put_64_s n v0 v1 v2 v3 v4 v5 v6 v7 g).symm.trans hf
    refine lv_iload hx hb dX12_put_64 (lv_at hl 7 rfl) ?_
    refine lv_iconst (v := 4) hx hb dX12_put_66 (by decide) ?_
    refine lv_icmp_ge (tgt := 103) hx hb dX12_put_67 (by decide) (fun hc => ?_) (fun hc => ?_)
    · replace hf := hs_t hf hc
      obtain rfl := Option.some.inj hf
      exact hex0 _ _ _ hP hS (lv_sub hl [0, 1, 2, 3, 4, 5] rfl)
    · replace hf := hs_f hf hc
      refine lv_aload_n hx hb dX12_put_70 rfl (lv_at hl 0 rfl) ?_
      obtain ⟨h67, hf⟩ := hs_ck hf
      obtain ⟨h68, hf⟩ := hs_ck hf
      refine hs_getr (C := RX12) (T := TX12) (N := 48) hx hb hts (fun w h => List.mem_cons_of_mem _ (inlX12 w h)) hown hK.1 hP h67 (by decide) rfl 30 (by decide) (hts _ (List.mem_cons_of_mem _ wq148)) (fun _ h => h) rfl h68 dX12_put_71 ?_
      refine lv_iload hx hb dX12_put_74 (lv_at hl 5 rfl) ?_
      refine lv_iconst (v := 1) hx hb dX12_put_76 (by decide) ?_
      refine lv_iadd hx hb dX12_put_77 ?_
      refine lv_iload hx hb dX12_put_78 (lv_at hl 7 rfl) ?_
      refine lv_iadd hx hb dX12_put_80 ?_
      refine lv_iload hx hb dX12_put_81 (lv_at hl 6 rfl) ?_
      refine lv_bipush (v := 24) hx hb dX12_put_83 (by decide) ?_
      refine lv_bipush (v := 8) hx hb dX12_put_85 (by decide) ?_
      refine lv_iload hx hb dX12_put_87 (lv_at hl 7 rfl) ?_
      refine lv_imul hx hb dX12_put_89 ?_
      refine lv_isub hx hb dX12_put_90 ?_
      refine lv_ishr hx hb dX12_put_91 ?_
      refine lv_sipush (v := 255) hx hb dX12_put_92 (by decide) ?_
      refine lv_iand hx hb dX12_put_95 ?_
      obtain ⟨h69, hf⟩ := hs_ck hf
      obtain ⟨h70, hf⟩ := hs_ck hf
      refine hs_iast hx hb hK.1 hP hS h69 h70 dX12_put_96 (fun H locs hP hS => ?_)
      obtain ⟨g71, e72, hf⟩ := hs_bv_some hf
      replace e72 := Option.some.inj e72
      rw [e72] at hP
      have h73 : hs_kd g71 v0 = 10 := by rw [← e72]; exact h67
      have h74 : hs_kd g71 ((hs_R g v0 30) - 1) = 100 := by rw [← e72]; exact h69
      have h75 : hs_in ((v5 + (1 : Int32)) + v7) (hs_ln g71 ((hs_R g v0 30) - 1)) = true := by rw [← e72]; exact h70
      refine lv_iinc (v := (v7 + (1 : Int32))) (lv' := [(7, .int (v7 + (1 : Int32))), (0, .ref (B + v0)), (1, .int v1), (2, .int v2), (3, .int v3), (4, .int v4), (5, .int v5), (6, .int v6)]) hx hb dX12_put_97 hl (k := 7) rfl (by rfl) (by decide) rfl (fun ls hl => ?_)
      refine lv_goto (tgt := 64) hx hb dX12_put_100 (by decide) ?_
      exact ih _ _ hf _ _ _ hP hS (lv_sub hl [1, 2, 3, 4, 5, 6, 7, 0] rfl)

set_option maxHeartbeats 4000000 in
set_option maxRecDepth 100000 in
theorem wX12_put_7 {p : Program} {l : Launch} {e : Env} {s : State} {m : MethodId} {args : Array Value} {below : List Frame} {meth : Method} {c : Code} {B : Nat} {D : va_G} {E : Nat → ClassId} (hX : hs_cx cX12_put none 8 RX12 wcX12_put p s m args meth c D E) {Q : State → Prop} {o : hs_S} {v0 : Nat} {v1 : Int32} {v2 : Int32} (hex0 : ∀ (H : Heap) (locs : List Loc) (ls : Array Slot), hs_P B D E (o) H → hs_Sx B s.heap H locs → lv_has ls 8 [] → W p l e rmX12_put s m args below meth c H locs 0 0 Q (F0 m 210 ls [])) : ∀ (n : Nat) (v3 : Int32) (g : hs_S), lX12_put_7 n v0 v1 v2 v3 g = some o → ∀ (H : Heap) (locs : List Loc) (ls : Array Slot), hs_P B D E g H → hs_Sx B s.heap H locs → lv_has ls 8 [(0, .ref (B + v0)), (1, .int v1), (2, .int v2), (3, .int v3)] → W p l e rmX12_put s m args below meth c H locs 0 0 Q (F0 m 7 ls []) := by
  obtain ⟨hx, hb, hr, hml, hown, hts, hlocks, hK⟩ := id hX
  intro n
  induction n with
  | zero =>
    intro v3 g hf
    cases hf
  | succ n ih =>
    intro v3 g hf H locs ls hP hS hl
    replace hf := (lX12_put_7_s n v0 v1 v2 v3 g).symm.trans hf
    refine lv_iload_n hx hb dX12_put_7 rfl (lv_at hl 3 rfl) ?_
    refine lv_aload_n hx hb dX12_put_8 rfl (lv_at hl 0 rfl) ?_
    obtain ⟨h2, hf⟩ := hs_ck hf
    obtain ⟨h3, hf⟩ := hs_ck hf
    refine hs_getr (C := RX12) (T := TX12) (N := 48) hx hb hts (fun w h => List.mem_cons_of_mem _ (inlX12 w h)) hown hK.1 hP h2 (by decide) rfl 7 (by decide) (hts _ (List.mem_cons_of_mem _ wq125)) (fun _ h => h) rfl h3 dX12_put_9 ?_
    refine lv_iload_n hx hb dX12_put_12 rfl (lv_at hl 1 rfl) ?_
    obtain ⟨h4, hf⟩ := hs_ck hf
    obtain ⟨h5, hf⟩ := hs_ck hf
    refine hs_iald hx hb hK.1 hP h4 h5 dX12_put_13 ?_
    refine lv_icmp_ge (tgt := 210) hx hb dX12_put_14 (by decide) (fun hc => ?_) (fun hc => ?_)
    · replace hf := hs_t hf hc
      obtain rfl := Option.some.inj hf
      exact hex0 _ _ _ hP hS (lv_sub hl [] rfl)
    · replace hf := hs_f hf hc
      refine lv_aload_n hx hb dX12_put_17 rfl (lv_at hl 0 rfl) ?_
      refine lv_iload_n hx hb dX12_put_18 rfl (lv_at hl 1 rfl) ?_
      refine lv_iload_n hx hb dX12_put_19 rfl (lv_at hl 3 rfl) ?_
      obtain ⟨r7, g6, h8, hf⟩ := hs_bd_some hf
      refine hs_calli (va_runV (As := [.int v1, .int v3]) (rest := []) ⟨hx, hb, hml, hown, hts⟩ (ctX12_kindAt l B D E v0 v1 v3 g _ h8) (cwV 2 hts (hs_gV (fun _ h => List.mem_cons_of_mem _ h) wq604 wq605 wq606 wq5 wq607) rfl rfl rfl (by decide +kernel) ⟨Nat.le_of_ble_eq_true rfl, Nat.le_of_ble_eq_true rfl⟩) (hs_preV (r := (RX12, TX12, 48)) hP hK h2 (by decide) rfl) rfl rfl hl.1 rfl (lv_room (Nat.le_of_ble_eq_true rfl)) dX12_put_20 ⟨(Nat.le_of_ble_eq_true rfl), (Nat.le_of_ble_eq_true rfl)⟩) hS (fun H locs hP hS => ?_)
      refine lv_istore (lv' := [(4, .int r7), (0, .ref (B + v0)), (1, .int v1), (2, .int v2), (3, .int v3)]) hx hb dX12_put_23 hl (by decide) rfl (fun ls hl => ?_)
      refine lv_aload_n hx hb dX12_put_25 rfl (lv_at hl 1 rfl) ?_
      obtain ⟨h9, hf⟩ := hs_ck hf
      obtain ⟨h10, hf⟩ := hs_ck hf
      refine hs_getr (C := RX12) (T := TX12) (N := 48) hx hb hts (fun w h => List.mem_cons_of_mem _ (inlX12 w h)) hown hK.1 hP h9 (by decide) rfl 27 (by decide) (hts _ (List.mem_cons_of_mem _ wq145)) (fun _ h => h) rfl h10 dX12_put_26 ?_
      refine lv_iload_n hx hb dX12_put_29 rfl (lv_at hl 4 rfl) ?_
      obtain ⟨h11, hf⟩ := hs_ck hf
      obtain ⟨h12, hf⟩ := hs_ck hf
      refine hs_iald hx hb hK.1 hP h11 h12 dX12_put_30 ?_
      refine lv_istore (lv' := [(5, .int (hs_I g6 ((hs_R g6 v0 27) - 1) v3.toNatClampNeg)), (4, .int r7), (0, .ref (B + v0)), (1, .int v1), (2, .int v2), (3, .int v3)]) hx hb dX12_put_31 hl (by decide) rfl (fun ls hl => ?_)
      refine lv_aload_n hx hb dX12_put_33 rfl (lv_at hl 2 rfl) ?_
      refine lv_iload_n hx hb dX12_put_34 rfl (lv_at hl 3 rfl) ?_
      refine lv_iload_n hx hb dX12_put_35 rfl (lv_at hl 5 rfl) ?_
      refine lv_iload_n hx hb dX12_put_36 rfl (lv_at hl 4 rfl) ?_
      obtain ⟨r14, g13, h15, hf⟩ := hs_bd_some hf
      refine hs_calli (va_runV (As := [.int v1, .int v3, .int v2]) (rest := []) ⟨hx, hb, hml, hown, hts⟩ (ctX12_paidAt l B D E v0 v1 v3 v2 g6 _ h15) (cwV 3 hts (hs_gV (fun _ h => List.mem_cons_of_mem _ h) wq612 wq613 wq614 wq5 wq615) rfl rfl rfl (by decide +kernel) ⟨Nat.le_of_ble_eq_true rfl, Nat.le_of_ble_eq_true rfl⟩) (hs_preV (r := (RX12, TX12, 48)) hP hK h9 (by decide) rfl) rfl rfl hl.1 rfl (lv_room (Nat.le_of_ble_eq_true rfl)) dX12_put_37 ⟨(Nat.le_of_ble_eq_true rfl), (Nat.le_of_ble_eq_true rfl)⟩) hS (fun H locs hP hS => ?_)
      refine lv_if_le (tgt := 106) hx hb dX12_put_40 (by decide) (fun hc => ?_) (fun hc => ?_)
      · replace hf := hs_t hf hc
        exact wX12_put_j106 hX (fun z0 g H locs ls hf hP hS hl => ih z0 g hf H locs ls hP hS hl) hex0 hf hP hS (lv_sub hl [2, 3, 4, 5, 1, 0] rfl)
      · replace hf := hs_f hf hc
        refine lv_aload_n hx hb dX12_put_43 rfl (lv_at hl 2 rfl) ?_
        refine lv_iload_n hx hb dX12_put_44 rfl (lv_at hl 3 rfl) ?_
        refine lv_iload_n hx hb dX12_put_45 rfl (lv_at hl 5 rfl) ?_
        obtain ⟨h54, hf⟩ := hs_ck hf
        obtain ⟨r56, g55, h57, hf⟩ := hs_bd_some hf
        refine hs_calli (va_runV (As := [.int v1, .int v3]) (rest := []) ⟨hx, hb, hml, hown, hts⟩ (ctX12_sum l B D E v0 v1 v3 g13 _ h57) (cwV 2 hts (hs_gV (fun _ h => List.mem_cons_of_mem _ h) wq616 wq617 wq618 wq5 wq619) rfl rfl rfl (by decide +kernel) ⟨Nat.le_of_ble_eq_true rfl, Nat.le_of_ble_eq_true rfl⟩) (hs_preV (r := (RX12, TX12, 48)) hP hK h54 (by decide) rfl) rfl rfl hl.1 rfl (lv_room (Nat.le_of_ble_eq_true rfl)) dX12_put_46 ⟨(Nat.le_of_ble_eq_true rfl), (Nat.le_of_ble_eq_true rfl)⟩) hS (fun H locs hP hS => ?_)
        refine lv_istore (lv' := [(6, .int r56), (5, .int (hs_I g6 ((hs_R g6 v0 27) - 1) v3.toNatClampNeg)), (4, .int r7), (0, .ref (B + v0)), (1, .int v1), (2, .int v2), (3, .int v3)]) hx hb dX12_put_49 hl (by decide) rfl (fun ls hl => ?_)
        refine lv_aload_n hx hb dX12_put_51 rfl (lv_at hl 3 rfl) ?_
        obtain ⟨h58, hf⟩ := hs_ck hf
        obtain ⟨h59, hf⟩ := hs_ck hf
        refine hs_getr (C := RX12) (T := TX12) (N := 48) hx hb hts (fun w h => List.mem_cons_of_mem _ (inlX12 w h)) hown hK.1 hP h58 (by decide) rfl 30 (by decide) (hts _ (List.mem_cons_of_mem _ wq148)) (fun _ h => h) rfl h59 dX12_put_52 ?_
        refine lv_iload hx hb dX12_put_55 (lv_at hl 1 rfl) ?_
        refine lv_sipush (v := 202) hx hb dX12_put_57 (by decide) ?_
        obtain ⟨h60, hf⟩ := hs_ck hf
        obtain ⟨h61, hf⟩ := hs_ck hf
        refine hs_iast hx hb hK.1 hP hS h60 h61 dX12_put_60 (fun H locs hP hS => ?_)
        obtain ⟨g62, e63, hf⟩ := hs_bv_some hf
        replace e63 := Option.some.inj e63
        rw [e63] at hP
        have h64 : hs_kd g62 v0 = 10 := by rw [← e63]; exact h58
        have h65 : hs_kd g62 ((hs_R g55 v0 30) - 1) = 100 := by rw [← e63]; exact h60
        have h66 : hs_in (hs_I g6 ((hs_R g6 v0 27) - 1) v3.toNatClampNeg) (hs_ln g62 ((hs_R g55 v0 30) - 1)) = true := by rw [← e63]; exact h61
        refine lv_iconst (v := 0) hx hb dX12_put_61 (by decide) ?_
        refine lv_istore (lv' := [(7, .int (0 : Int32)), (6, .int r56), (5, .int (hs_I g6 ((hs_R g6 v0 27) - 1) v3.toNatClampNeg)), (4, .int r7), (0, .ref (B + v0)), (1, .int v1), (2, .int v2), (3, .int v3)]) hx hb dX12_put_62 hl (by decide) rfl (fun ls hl => ?_)
        obtain ⟨g77, h78, hf⟩ := hs_bv_some hf
        refine wX12_put_64 hX (fun H locs ls hP hS hl => ?_) hs_N _ _ h78 _ _ _ hP hS (lv_sub hl [4, 5, 6, 7, 3, 2, 1, 0] rfl)
        refine lv_iinc (v := ((hs_I g6 ((hs_R g6 v0 27) - 1) v3.toNatClampNeg) + (5 : Int32))) (lv' := [(5, .int ((hs_I g6 ((hs_R g6 v0 27) - 1) v3.toNatClampNeg) + (5 : Int32))), (0, .ref (B + v0)), (1, .int v1), (2, .int v2), (3, .int v3), (4, .int r7)]) hx hb dX12_put_103 hl (k := 5) rfl (by rfl) (by decide) rfl (fun ls hl => ?_)
        exact wX12_put_j106 hX (fun z0 g H locs ls hf hP hS hl => ih z0 g hf H locs ls hP hS hl) hex0 hf hP hS (lv_sub hl [1, 2, 3, 4, 5, 0] rfl)

set_option maxHeartbeats 4000000 in
set_option maxRecDepth 100000 in
theorem ctX12_put (l : Launch) (B : Nat) (D : va_G) (E : Nat → ClassId) (v0 : Nat) (v1 : Int32) (v2 : Int32) (g : hs_S) (o : hs_S) (hf : fX12_put v0 v1 v2 g = some o) : Met l yX12_put wcX12_put rmX12_put (hs_Pc B D E g [.ref (B + v0), .int v1, .int v2]) (hs_Qv B D E o) (0) (0) (hs_F B) := by
  refine Met.ofW (cc := cX12_put) (maxL := 8) (ret := none) (by decide) rfl ?_
  intro p e s m args below meth c s₁ Bd hml hv
  obtain ⟨rfl, hP, hK⟩ := hv
  have hx := Bd.exec
  have hb := Bd.bytes
  have hr := Bd.returns
  have hts := atoms_spec (ws := wcX12_put) Bd.pre
  have hown : s.vm.findClass RX12 = some m.cls := findClass_of_methodNamed Bd.named
  have hlocks := Bd.notSynchronized
  have hS : hs_Sx B s.heap s.heap [] := va_S.rf
  have hX : hs_cx cX12_put none 8 RX12 wcX12_put p s m (List.toArray [.ref (B + v0), .int v1, .int v2]) meth c D E := ⟨hx, hb, hr, hml, hown, hts, hlocks, hK⟩
  have hl := lv_entry ([.ref (B + v0), .int v1, .int v2]) (n := 8) (Nat.le_of_ble_eq_true rfl)
  rw [lg_entry_eq]
  generalize (lg_sl ([.ref (B + v0), .int v1, .int v2]) ++ List.replicate (8 - (lg_sl ([.ref (B + v0), .int v1, .int v2])).length) Slot.unset).toArray = ls at hl ⊢
  have hl : lv_has ls 8 [(0, .ref (B + v0)), (1, .int v1), (2, .int v2)] := hl
  have hP : hs_P B D E g s.heap := hP
  unfold fX12_put at hf
  refine lv_aload_n hx hb dX12_put_0 rfl (lv_at hl 0 rfl) ?_
  refine lv_iconst (v := 0) hx hb dX12_put_1 (by decide) ?_
  obtain ⟨h1, hf⟩ := hs_ck hf
  refine hs_puti (C := RX12) (T := TX12) (N := 48) hx hb hts (fun w h => List.mem_cons_of_mem _ (inlX12 w h)) tyX12 tyX12_ok nmX12 hown hK.1 hP hS h1 (by decide) rfl 31 (by decide) (hts _ (List.mem_cons_of_mem _ wq595)) (fun _ h => h) (Or.inl rfl) rfl rfl rfl dX12_put_2 (fun H locs hP hS => ?_)
  refine lv_iconst (v := 0) hx hb dX12_put_5 (by decide) ?_
  refine lv_istore_n (lv' := [(3, .int (0 : Int32)), (0, .ref (B + v0)), (1, .int v1), (2, .int v2)]) hx hb dX12_put_6 rfl hl (by decide) rfl (fun ls hl => ?_)
  obtain ⟨g80, h81, hf⟩ := hs_bv_some hf
  refine wX12_put_7 hX (fun H locs ls hP hS hl => ?_) hs_N _ _ h81 _ _ _ hP hS (lv_sub hl [1, 2, 3, 0] rfl)
  exact hs_vret hx hb hr hlocks hK hP hS hf dX12_put_210

