theorem dX12_instructions_0 : decode cX12_instructions 0 = .ok (.aload_n 0, 1) := by decide +kernel
theorem dX12_instructions_1 : decode cX12_instructions 1 = .ok (.getfield 54, 3) := by decide +kernel
theorem dX12_instructions_4 : decode cX12_instructions 4 = .ok (.iload_n 1, 1) := by decide +kernel
theorem dX12_instructions_5 : decode cX12_instructions 5 = .ok (.iaload, 1) := by decide +kernel
theorem dX12_instructions_6 : decode cX12_instructions 6 = .ok (.istore_n 3, 1) := by decide +kernel
theorem dX12_instructions_7 : decode cX12_instructions 7 = .ok (.iconst 0, 1) := by decide +kernel
theorem dX12_instructions_8 : decode cX12_instructions 8 = .ok (.istore 4, 2) := by decide +kernel
theorem dX12_instructions_10 : decode cX12_instructions 10 = .ok (.iload 4, 2) := by decide +kernel
theorem dX12_instructions_12 : decode cX12_instructions 12 = .ok (.iload_n 3, 1) := by decide +kernel
theorem dX12_instructions_13 : decode cX12_instructions 13 = .ok (.if_icmp .gt 23, 3) := by decide +kernel
theorem dX12_instructions_16 : decode cX12_instructions 16 = .ok (.aload_n 0, 1) := by decide +kernel
theorem dX12_instructions_17 : decode cX12_instructions 17 = .ok (.getfield 35, 3) := by decide +kernel
theorem dX12_instructions_20 : decode cX12_instructions 20 = .ok (.sipush 2001, 3) := by decide +kernel
theorem dX12_instructions_23 : decode cX12_instructions 23 = .ok (.iload_n 1, 1) := by decide +kernel
theorem dX12_instructions_24 : decode cX12_instructions 24 = .ok (.imul, 1) := by decide +kernel
theorem dX12_instructions_25 : decode cX12_instructions 25 = .ok (.iload 4, 2) := by decide +kernel
theorem dX12_instructions_27 : decode cX12_instructions 27 = .ok (.iadd, 1) := by decide +kernel
theorem dX12_instructions_28 : decode cX12_instructions 28 = .ok (.iconst 0, 1) := by decide +kernel
theorem dX12_instructions_29 : decode cX12_instructions 29 = .ok (.bastore, 1) := by decide +kernel
theorem dX12_instructions_30 : decode cX12_instructions 30 = .ok (.iinc 4 1, 3) := by decide +kernel
theorem dX12_instructions_33 : decode cX12_instructions 33 = .ok (.goto (-23), 3) := by decide +kernel
theorem dX12_instructions_36 : decode cX12_instructions 36 = .ok (.iconst 0, 1) := by decide +kernel
theorem dX12_instructions_37 : decode cX12_instructions 37 = .ok (.istore 4, 2) := by decide +kernel
theorem dX12_instructions_39 : decode cX12_instructions 39 = .ok (.iload 4, 2) := by decide +kernel
theorem dX12_instructions_41 : decode cX12_instructions 41 = .ok (.iload_n 3, 1) := by decide +kernel
theorem dX12_instructions_42 : decode cX12_instructions 42 = .ok (.if_icmp .ge 229, 3) := by decide +kernel
theorem dX12_instructions_45 : decode cX12_instructions 45 = .ok (.sipush 2001, 3) := by decide +kernel
theorem dX12_instructions_48 : decode cX12_instructions 48 = .ok (.iload_n 1, 1) := by decide +kernel
theorem dX12_instructions_49 : decode cX12_instructions 49 = .ok (.imul, 1) := by decide +kernel
theorem dX12_instructions_50 : decode cX12_instructions 50 = .ok (.iload 4, 2) := by decide +kernel
theorem dX12_instructions_52 : decode cX12_instructions 52 = .ok (.iadd, 1) := by decide +kernel
theorem dX12_instructions_53 : decode cX12_instructions 53 = .ok (.istore 5, 2) := by decide +kernel
theorem dX12_instructions_55 : decode cX12_instructions 55 = .ok (.aload_n 0, 1) := by decide +kernel
theorem dX12_instructions_56 : decode cX12_instructions 56 = .ok (.getfield 66, 3) := by decide +kernel
theorem dX12_instructions_59 : decode cX12_instructions 59 = .ok (.iload 5, 2) := by decide +kernel
theorem dX12_instructions_61 : decode cX12_instructions 61 = .ok (.iaload, 1) := by decide +kernel
theorem dX12_instructions_62 : decode cX12_instructions 62 = .ok (.istore 6, 2) := by decide +kernel
theorem dX12_instructions_64 : decode cX12_instructions 64 = .ok (.iload 6, 2) := by decide +kernel
theorem dX12_instructions_66 : decode cX12_instructions 66 = .ok (.invokestatic 169, 3) := by decide +kernel
theorem dX12_instructions_69 : decode cX12_instructions 69 = .ok (.ifCond .eq 19, 3) := by decide +kernel
theorem dX12_instructions_72 : decode cX12_instructions 72 = .ok (.iload 4, 2) := by decide +kernel
theorem dX12_instructions_74 : decode cX12_instructions 74 = .ok (.iload 6, 2) := by decide +kernel
theorem dX12_instructions_76 : decode cX12_instructions 76 = .ok (.invokestatic 120, 3) := by decide +kernel
theorem dX12_instructions_79 : decode cX12_instructions 79 = .ok (.iadd, 1) := by decide +kernel
theorem dX12_instructions_80 : decode cX12_instructions 80 = .ok (.iload_n 3, 1) := by decide +kernel
theorem dX12_instructions_81 : decode cX12_instructions 81 = .ok (.if_icmp .gt 7, 3) := by decide +kernel
theorem dX12_instructions_84 : decode cX12_instructions 84 = .ok (.iconst 1, 1) := by decide +kernel
theorem dX12_instructions_85 : decode cX12_instructions 85 = .ok (.goto 4, 3) := by decide +kernel
theorem dX12_instructions_88 : decode cX12_instructions 88 = .ok (.iconst 0, 1) := by decide +kernel
theorem dX12_instructions_89 : decode cX12_instructions 89 = .ok (.istore 7, 2) := by decide +kernel
theorem dX12_instructions_91 : decode cX12_instructions 91 = .ok (.iload 7, 2) := by decide +kernel
theorem dX12_instructions_93 : decode cX12_instructions 93 = .ok (.ifCond .eq 24, 3) := by decide +kernel
theorem dX12_instructions_96 : decode cX12_instructions 96 = .ok (.iload 6, 2) := by decide +kernel
theorem dX12_instructions_98 : decode cX12_instructions 98 = .ok (.invokestatic 120, 3) := by decide +kernel
theorem dX12_instructions_101 : decode cX12_instructions 101 = .ok (.iconst 1, 1) := by decide +kernel
theorem dX12_instructions_102 : decode cX12_instructions 102 = .ok (.if_icmp .le 15, 3) := by decide +kernel
theorem dX12_instructions_105 : decode cX12_instructions 105 = .ok (.aload_n 0, 1) := by decide +kernel
theorem dX12_instructions_106 : decode cX12_instructions 106 = .ok (.getfield 66, 3) := by decide +kernel
theorem dX12_instructions_109 : decode cX12_instructions 109 = .ok (.iload 5, 2) := by decide +kernel
theorem dX12_instructions_111 : decode cX12_instructions 111 = .ok (.iconst 1, 1) := by decide +kernel
theorem dX12_instructions_112 : decode cX12_instructions 112 = .ok (.iadd, 1) := by decide +kernel
theorem dX12_instructions_113 : decode cX12_instructions 113 = .ok (.iaload, 1) := by decide +kernel
theorem dX12_instructions_114 : decode cX12_instructions 114 = .ok (.goto 4, 3) := by decide +kernel
theorem dX12_instructions_117 : decode cX12_instructions 117 = .ok (.iconst 0, 1) := by decide +kernel
theorem dX12_instructions_118 : decode cX12_instructions 118 = .ok (.istore 8, 2) := by decide +kernel
theorem dX12_instructions_120 : decode cX12_instructions 120 = .ok (.iload 6, 2) := by decide +kernel
theorem dX12_instructions_122 : decode cX12_instructions 122 = .ok (.bipush 21, 2) := by decide +kernel
theorem dX12_instructions_124 : decode cX12_instructions 124 = .ok (.if_icmp .eq 10, 3) := by decide +kernel
theorem dX12_instructions_127 : decode cX12_instructions 127 = .ok (.iload 6, 2) := by decide +kernel
theorem dX12_instructions_129 : decode cX12_instructions 129 = .ok (.bipush 54, 2) := by decide +kernel
theorem dX12_instructions_131 : decode cX12_instructions 131 = .ok (.if_icmp .ne 26, 3) := by decide +kernel
theorem dX12_instructions_134 : decode cX12_instructions 134 = .ok (.iload 7, 2) := by decide +kernel
theorem dX12_instructions_136 : decode cX12_instructions 136 = .ok (.ifCond .eq 18, 3) := by decide +kernel
theorem dX12_instructions_139 : decode cX12_instructions 139 = .ok (.iload 8, 2) := by decide +kernel
theorem dX12_instructions_141 : decode cX12_instructions 141 = .ok (.aload_n 0, 1) := by decide +kernel
theorem dX12_instructions_142 : decode cX12_instructions 142 = .ok (.getfield 51, 3) := by decide +kernel
theorem dX12_instructions_145 : decode cX12_instructions 145 = .ok (.iload_n 1, 1) := by decide +kernel
theorem dX12_instructions_146 : decode cX12_instructions 146 = .ok (.iaload, 1) := by decide +kernel
theorem dX12_instructions_147 : decode cX12_instructions 147 = .ok (.if_icmp .ge 7, 3) := by decide +kernel
theorem dX12_instructions_150 : decode cX12_instructions 150 = .ok (.iconst 1, 1) := by decide +kernel
theorem dX12_instructions_151 : decode cX12_instructions 151 = .ok (.goto 4, 3) := by decide +kernel
theorem dX12_instructions_154 : decode cX12_instructions 154 = .ok (.iconst 0, 1) := by decide +kernel
theorem dX12_instructions_155 : decode cX12_instructions 155 = .ok (.istore 7, 2) := by decide +kernel
theorem dX12_instructions_157 : decode cX12_instructions 157 = .ok (.iload 6, 2) := by decide +kernel
theorem dX12_instructions_159 : decode cX12_instructions 159 = .ok (.sipush 184, 3) := by decide +kernel
theorem dX12_instructions_162 : decode cX12_instructions 162 = .ok (.if_icmp .ne 21, 3) := by decide +kernel
theorem dX12_instructions_165 : decode cX12_instructions 165 = .ok (.iload 7, 2) := by decide +kernel
theorem dX12_instructions_167 : decode cX12_instructions 167 = .ok (.ifCond .eq 13, 3) := by decide +kernel
theorem dX12_instructions_170 : decode cX12_instructions 170 = .ok (.iload 8, 2) := by decide +kernel
theorem dX12_instructions_172 : decode cX12_instructions 172 = .ok (.iload_n 2, 1) := by decide +kernel
theorem dX12_instructions_173 : decode cX12_instructions 173 = .ok (.if_icmp .ge 7, 3) := by decide +kernel
theorem dX12_instructions_176 : decode cX12_instructions 176 = .ok (.iconst 1, 1) := by decide +kernel
theorem dX12_instructions_177 : decode cX12_instructions 177 = .ok (.goto 4, 3) := by decide +kernel
theorem dX12_instructions_180 : decode cX12_instructions 180 = .ok (.iconst 0, 1) := by decide +kernel
theorem dX12_instructions_181 : decode cX12_instructions 181 = .ok (.istore 7, 2) := by decide +kernel
theorem dX12_instructions_183 : decode cX12_instructions 183 = .ok (.iload 6, 2) := by decide +kernel
theorem dX12_instructions_185 : decode cX12_instructions 185 = .ok (.sipush 188, 3) := by decide +kernel
theorem dX12_instructions_188 : decode cX12_instructions 188 = .ok (.if_icmp .eq 25, 3) := by decide +kernel
theorem dX12_instructions_191 : decode cX12_instructions 191 = .ok (.iload 6, 2) := by decide +kernel
theorem dX12_instructions_193 : decode cX12_instructions 193 = .ok (.sipush 190, 3) := by decide +kernel
theorem dX12_instructions_196 : decode cX12_instructions 196 = .ok (.if_icmp .eq 17, 3) := by decide +kernel
theorem dX12_instructions_199 : decode cX12_instructions 199 = .ok (.iload 6, 2) := by decide +kernel
theorem dX12_instructions_201 : decode cX12_instructions 201 = .ok (.bipush 46, 2) := by decide +kernel
theorem dX12_instructions_203 : decode cX12_instructions 203 = .ok (.if_icmp .eq 10, 3) := by decide +kernel
theorem dX12_instructions_206 : decode cX12_instructions 206 = .ok (.iload 6, 2) := by decide +kernel
theorem dX12_instructions_208 : decode cX12_instructions 208 = .ok (.bipush 79, 2) := by decide +kernel
theorem dX12_instructions_210 : decode cX12_instructions 210 = .ok (.if_icmp .ne 21, 3) := by decide +kernel
theorem dX12_instructions_213 : decode cX12_instructions 213 = .ok (.iload 7, 2) := by decide +kernel
theorem dX12_instructions_215 : decode cX12_instructions 215 = .ok (.ifCond .eq 13, 3) := by decide +kernel
theorem dX12_instructions_218 : decode cX12_instructions 218 = .ok (.iload 8, 2) := by decide +kernel
theorem dX12_instructions_220 : decode cX12_instructions 220 = .ok (.iconst 4, 1) := by decide +kernel
theorem dX12_instructions_221 : decode cX12_instructions 221 = .ok (.if_icmp .ge 7, 3) := by decide +kernel
theorem dX12_instructions_224 : decode cX12_instructions 224 = .ok (.iconst 1, 1) := by decide +kernel
theorem dX12_instructions_225 : decode cX12_instructions 225 = .ok (.goto 4, 3) := by decide +kernel
theorem dX12_instructions_228 : decode cX12_instructions 228 = .ok (.iconst 0, 1) := by decide +kernel
theorem dX12_instructions_229 : decode cX12_instructions 229 = .ok (.istore 7, 2) := by decide +kernel
theorem dX12_instructions_231 : decode cX12_instructions 231 = .ok (.iload 7, 2) := by decide +kernel
theorem dX12_instructions_233 : decode cX12_instructions 233 = .ok (.ifCond .ne 17, 3) := by decide +kernel
theorem dX12_instructions_236 : decode cX12_instructions 236 = .ok (.aload_n 0, 1) := by decide +kernel
theorem dX12_instructions_237 : decode cX12_instructions 237 = .ok (.aload_n 0, 1) := by decide +kernel
theorem dX12_instructions_238 : decode cX12_instructions 238 = .ok (.getfield 57, 3) := by decide +kernel
theorem dX12_instructions_241 : decode cX12_instructions 241 = .ok (.iload_n 1, 1) := by decide +kernel
theorem dX12_instructions_242 : decode cX12_instructions 242 = .ok (.iaload, 1) := by decide +kernel
theorem dX12_instructions_243 : decode cX12_instructions 243 = .ok (.iload 4, 2) := by decide +kernel
theorem dX12_instructions_245 : decode cX12_instructions 245 = .ok (.iadd, 1) := by decide +kernel
theorem dX12_instructions_246 : decode cX12_instructions 246 = .ok (.invokevirtual 141, 3) := by decide +kernel
theorem dX12_instructions_249 : decode cX12_instructions 249 = .ok (.ireturn, 1) := by decide +kernel
theorem dX12_instructions_250 : decode cX12_instructions 250 = .ok (.aload_n 0, 1) := by decide +kernel
theorem dX12_instructions_251 : decode cX12_instructions 251 = .ok (.getfield 35, 3) := by decide +kernel
theorem dX12_instructions_254 : decode cX12_instructions 254 = .ok (.iload 5, 2) := by decide +kernel
theorem dX12_instructions_256 : decode cX12_instructions 256 = .ok (.iconst 1, 1) := by decide +kernel
theorem dX12_instructions_257 : decode cX12_instructions 257 = .ok (.bastore, 1) := by decide +kernel
theorem dX12_instructions_258 : decode cX12_instructions 258 = .ok (.iload 4, 2) := by decide +kernel
theorem dX12_instructions_260 : decode cX12_instructions 260 = .ok (.iload 6, 2) := by decide +kernel
theorem dX12_instructions_262 : decode cX12_instructions 262 = .ok (.invokestatic 120, 3) := by decide +kernel
theorem dX12_instructions_265 : decode cX12_instructions 265 = .ok (.iadd, 1) := by decide +kernel
theorem dX12_instructions_266 : decode cX12_instructions 266 = .ok (.istore 4, 2) := by decide +kernel
theorem dX12_instructions_268 : decode cX12_instructions 268 = .ok (.goto (-229), 3) := by decide +kernel
theorem dX12_instructions_271 : decode cX12_instructions 271 = .ok (.iconst 0, 1) := by decide +kernel
theorem dX12_instructions_272 : decode cX12_instructions 272 = .ok (.ireturn, 1) := by decide +kernel
abbrev wcX12_instructions : List Cond := .code yX12_instructions cX12_instructions 9 (some .int) :: wsL_law
def lX12_instructions_10 : Nat → Nat → Int32 → Int32 → Int32 → Int32 → hs_S → Option (hs_S)
  | 0, _, _, _, _, _, _ => none
  | n + 1, v0, v1, v2, v3, v4, g =>
    if v3 < v4 then (
      some g
    ) else (
      if hs_kd g v0 = 10 then
      if ¬ (hs_R g v0 11) = 0 then
      if hs_kd g ((hs_R g v0 11) - 1) = 101 then
      if hs_in (((2001 : Int32) * v1) + v4) (hs_ln g ((hs_R g v0 11) - 1)) = true then
      lX12_instructions_10 n v0 v1 v2 v3 (v4 + (1 : Int32)) (hs_wI g ((hs_R g v0 11) - 1) (((2001 : Int32) * v1) + v4).toNatClampNeg (0 : Int32))
      else none else none else none else none
    )
theorem lX12_instructions_10_s (n : Nat) (v0 : Nat) (v1 : Int32) (v2 : Int32) (v3 : Int32) (v4 : Int32) (g : hs_S) : lX12_instructions_10 (n + 1) v0 v1 v2 v3 v4 g =
    if v3 < v4 then (
      some g
    ) else (
      if hs_kd g v0 = 10 then
      if ¬ (hs_R g v0 11) = 0 then
      if hs_kd g ((hs_R g v0 11) - 1) = 101 then
      if hs_in (((2001 : Int32) * v1) + v4) (hs_ln g ((hs_R g v0 11) - 1)) = true then
      lX12_instructions_10 n v0 v1 v2 v3 (v4 + (1 : Int32)) (hs_wI g ((hs_R g v0 11) - 1) (((2001 : Int32) * v1) + v4).toNatClampNeg (0 : Int32))
      else none else none else none else none
    ) := rfl
def jX12_instructions_231 (rec : Int32 → hs_S → Option (Nat × Int32 × hs_S)) (v0 : Nat) (v1 : Int32) (v2 : Int32) (v3 : Int32) (v4 : Int32) (v5 : Int32) (v6 : Int32) (v7 : Int32) (g : hs_S) : Option (Nat × Int32 × hs_S) :=
  if v7 = 0 then (
    some (1, v4, g)
  ) else (
    if hs_kd g v0 = 10 then
    if ¬ (hs_R g v0 11) = 0 then
    if hs_kd g ((hs_R g v0 11) - 1) = 101 then
    if hs_in v5 (hs_ln g ((hs_R g v0 11) - 1)) = true then
    hs_bd (fX12_size v6 (hs_wI g ((hs_R g v0 11) - 1) v5.toNatClampNeg (1 : Int32))) fun r24 g23 =>
    rec (v4 + r24) g23
    else none else none else none else none
  )
def jX12_instructions_229 (rec : Int32 → hs_S → Option (Nat × Int32 × hs_S)) (v0 : Nat) (v1 : Int32) (v2 : Int32) (v3 : Int32) (v4 : Int32) (v5 : Int32) (v6 : Int32) (s0 : Int32) (g : hs_S) : Option (Nat × Int32 × hs_S) :=
  jX12_instructions_231 rec v0 v1 v2 v3 v4 v5 v6 s0 g
def jX12_instructions_228 (rec : Int32 → hs_S → Option (Nat × Int32 × hs_S)) (v0 : Nat) (v1 : Int32) (v2 : Int32) (v3 : Int32) (v4 : Int32) (v5 : Int32) (v6 : Int32) (g : hs_S) : Option (Nat × Int32 × hs_S) :=
  jX12_instructions_229 rec v0 v1 v2 v3 v4 v5 v6 (0 : Int32) g
def jX12_instructions_213 (rec : Int32 → hs_S → Option (Nat × Int32 × hs_S)) (v0 : Nat) (v1 : Int32) (v2 : Int32) (v3 : Int32) (v4 : Int32) (v5 : Int32) (v6 : Int32) (v7 : Int32) (v8 : Int32) (g : hs_S) : Option (Nat × Int32 × hs_S) :=
  if v7 = 0 then (
    jX12_instructions_228 rec v0 v1 v2 v3 v4 v5 v6 g
  ) else (
    if (4 : Int32) ≤ v8 then (
      jX12_instructions_228 rec v0 v1 v2 v3 v4 v5 v6 g
    ) else (
      jX12_instructions_229 rec v0 v1 v2 v3 v4 v5 v6 (1 : Int32) g
    )
  )
def jX12_instructions_183 (rec : Int32 → hs_S → Option (Nat × Int32 × hs_S)) (v0 : Nat) (v1 : Int32) (v2 : Int32) (v3 : Int32) (v4 : Int32) (v5 : Int32) (v6 : Int32) (v7 : Int32) (v8 : Int32) (g : hs_S) : Option (Nat × Int32 × hs_S) :=
  if v6 = (188 : Int32) then (
    jX12_instructions_213 rec v0 v1 v2 v3 v4 v5 v6 v7 v8 g
  ) else (
    if v6 = (190 : Int32) then (
      jX12_instructions_213 rec v0 v1 v2 v3 v4 v5 v6 v7 v8 g
    ) else (
      if v6 = (46 : Int32) then (
        jX12_instructions_213 rec v0 v1 v2 v3 v4 v5 v6 v7 v8 g
      ) else (
        if v6 = (79 : Int32) then (
          jX12_instructions_213 rec v0 v1 v2 v3 v4 v5 v6 v7 v8 g
        ) else (
          jX12_instructions_231 rec v0 v1 v2 v3 v4 v5 v6 v7 g
        )
      )
    )
  )
def jX12_instructions_181 (rec : Int32 → hs_S → Option (Nat × Int32 × hs_S)) (v0 : Nat) (v1 : Int32) (v2 : Int32) (v3 : Int32) (v4 : Int32) (v5 : Int32) (v6 : Int32) (v8 : Int32) (s0 : Int32) (g : hs_S) : Option (Nat × Int32 × hs_S) :=
  jX12_instructions_183 rec v0 v1 v2 v3 v4 v5 v6 s0 v8 g
def jX12_instructions_180 (rec : Int32 → hs_S → Option (Nat × Int32 × hs_S)) (v0 : Nat) (v1 : Int32) (v2 : Int32) (v3 : Int32) (v4 : Int32) (v5 : Int32) (v6 : Int32) (v8 : Int32) (g : hs_S) : Option (Nat × Int32 × hs_S) :=
  jX12_instructions_181 rec v0 v1 v2 v3 v4 v5 v6 v8 (0 : Int32) g
def jX12_instructions_157 (rec : Int32 → hs_S → Option (Nat × Int32 × hs_S)) (v0 : Nat) (v1 : Int32) (v2 : Int32) (v3 : Int32) (v4 : Int32) (v5 : Int32) (v6 : Int32) (v7 : Int32) (v8 : Int32) (g : hs_S) : Option (Nat × Int32 × hs_S) :=
  if v6 = (184 : Int32) then (
    if v7 = 0 then (
      jX12_instructions_180 rec v0 v1 v2 v3 v4 v5 v6 v8 g
    ) else (
      if v2 ≤ v8 then (
        jX12_instructions_180 rec v0 v1 v2 v3 v4 v5 v6 v8 g
      ) else (
        jX12_instructions_181 rec v0 v1 v2 v3 v4 v5 v6 v8 (1 : Int32) g
      )
    )
  ) else (
    jX12_instructions_183 rec v0 v1 v2 v3 v4 v5 v6 v7 v8 g
  )
def jX12_instructions_155 (rec : Int32 → hs_S → Option (Nat × Int32 × hs_S)) (v0 : Nat) (v1 : Int32) (v2 : Int32) (v3 : Int32) (v4 : Int32) (v5 : Int32) (v6 : Int32) (v8 : Int32) (s0 : Int32) (g : hs_S) : Option (Nat × Int32 × hs_S) :=
  jX12_instructions_157 rec v0 v1 v2 v3 v4 v5 v6 s0 v8 g
def jX12_instructions_154 (rec : Int32 → hs_S → Option (Nat × Int32 × hs_S)) (v0 : Nat) (v1 : Int32) (v2 : Int32) (v3 : Int32) (v4 : Int32) (v5 : Int32) (v6 : Int32) (v8 : Int32) (g : hs_S) : Option (Nat × Int32 × hs_S) :=
  jX12_instructions_155 rec v0 v1 v2 v3 v4 v5 v6 v8 (0 : Int32) g
def jX12_instructions_134 (rec : Int32 → hs_S → Option (Nat × Int32 × hs_S)) (v0 : Nat) (v1 : Int32) (v2 : Int32) (v3 : Int32) (v4 : Int32) (v5 : Int32) (v6 : Int32) (v7 : Int32) (v8 : Int32) (g : hs_S) : Option (Nat × Int32 × hs_S) :=
  if v7 = 0 then (
    jX12_instructions_154 rec v0 v1 v2 v3 v4 v5 v6 v8 g
  ) else (
    if hs_kd g v0 = 10 then
    if ¬ (hs_R g v0 16) = 0 then
    if hs_kd g ((hs_R g v0 16) - 1) = 100 then
    if hs_in v1 (hs_ln g ((hs_R g v0 16) - 1)) = true then
    if (hs_I g ((hs_R g v0 16) - 1) v1.toNatClampNeg) ≤ v8 then (
      jX12_instructions_154 rec v0 v1 v2 v3 v4 v5 v6 v8 g
    ) else (
      jX12_instructions_155 rec v0 v1 v2 v3 v4 v5 v6 v8 (1 : Int32) g
    )
    else none else none else none else none
  )
def jX12_instructions_118 (rec : Int32 → hs_S → Option (Nat × Int32 × hs_S)) (v0 : Nat) (v1 : Int32) (v2 : Int32) (v3 : Int32) (v4 : Int32) (v5 : Int32) (v6 : Int32) (v7 : Int32) (s0 : Int32) (g : hs_S) : Option (Nat × Int32 × hs_S) :=
  if v6 = (21 : Int32) then (
    jX12_instructions_134 rec v0 v1 v2 v3 v4 v5 v6 v7 s0 g
  ) else (
    if v6 = (54 : Int32) then (
      jX12_instructions_134 rec v0 v1 v2 v3 v4 v5 v6 v7 s0 g
    ) else (
      jX12_instructions_157 rec v0 v1 v2 v3 v4 v5 v6 v7 s0 g
    )
  )
def jX12_instructions_117 (rec : Int32 → hs_S → Option (Nat × Int32 × hs_S)) (v0 : Nat) (v1 : Int32) (v2 : Int32) (v3 : Int32) (v4 : Int32) (v5 : Int32) (v6 : Int32) (v7 : Int32) (g : hs_S) : Option (Nat × Int32 × hs_S) :=
  jX12_instructions_118 rec v0 v1 v2 v3 v4 v5 v6 v7 (0 : Int32) g
def jX12_instructions_89 (rec : Int32 → hs_S → Option (Nat × Int32 × hs_S)) (v0 : Nat) (v1 : Int32) (v2 : Int32) (v3 : Int32) (v4 : Int32) (v5 : Int32) (v6 : Int32) (s0 : Int32) (g : hs_S) : Option (Nat × Int32 × hs_S) :=
  if s0 = 0 then (
    jX12_instructions_117 rec v0 v1 v2 v3 v4 v5 v6 s0 g
  ) else (
    hs_bd (fX12_size v6 g) fun r31 g30 =>
    if r31 ≤ (1 : Int32) then (
      jX12_instructions_117 rec v0 v1 v2 v3 v4 v5 v6 s0 g30
    ) else (
      if hs_kd g30 v0 = 10 then
      if ¬ (hs_R g30 v0 21) = 0 then
      if hs_kd g30 ((hs_R g30 v0 21) - 1) = 100 then
      if hs_in (v5 + (1 : Int32)) (hs_ln g30 ((hs_R g30 v0 21) - 1)) = true then
      jX12_instructions_118 rec v0 v1 v2 v3 v4 v5 v6 s0 (hs_I g30 ((hs_R g30 v0 21) - 1) (v5 + (1 : Int32)).toNatClampNeg) g30
      else none else none else none else none
    )
  )
def jX12_instructions_88 (rec : Int32 → hs_S → Option (Nat × Int32 × hs_S)) (v0 : Nat) (v1 : Int32) (v2 : Int32) (v3 : Int32) (v4 : Int32) (v5 : Int32) (v6 : Int32) (g : hs_S) : Option (Nat × Int32 × hs_S) :=
  jX12_instructions_89 rec v0 v1 v2 v3 v4 v5 v6 (0 : Int32) g
def lX12_instructions_39 : Nat → Nat → Int32 → Int32 → Int32 → Int32 → hs_S → Option (Nat × Int32 × hs_S)
  | 0, _, _, _, _, _, _ => none
  | n + 1, v0, v1, v2, v3, v4, g =>
    if v3 ≤ v4 then (
      some (0, v4, g)
    ) else (
      if hs_kd g v0 = 10 then
      if ¬ (hs_R g v0 21) = 0 then
      if hs_kd g ((hs_R g v0 21) - 1) = 100 then
      if hs_in (((2001 : Int32) * v1) + v4) (hs_ln g ((hs_R g v0 21) - 1)) = true then
      hs_bd (fX12_isKind (hs_I g ((hs_R g v0 21) - 1) (((2001 : Int32) * v1) + v4).toNatClampNeg) g) fun r17 g16 =>
      if r17 = 0 then (
        jX12_instructions_88 (fun y0 g => lX12_instructions_39 n v0 v1 v2 v3 y0 g) v0 v1 v2 v3 v4 (((2001 : Int32) * v1) + v4) (hs_I g ((hs_R g v0 21) - 1) (((2001 : Int32) * v1) + v4).toNatClampNeg) g16
      ) else (
        hs_bd (fX12_size (hs_I g ((hs_R g v0 21) - 1) (((2001 : Int32) * v1) + v4).toNatClampNeg) g16) fun r38 g37 =>
        if v3 < (v4 + r38) then (
          jX12_instructions_88 (fun y0 g => lX12_instructions_39 n v0 v1 v2 v3 y0 g) v0 v1 v2 v3 v4 (((2001 : Int32) * v1) + v4) (hs_I g ((hs_R g v0 21) - 1) (((2001 : Int32) * v1) + v4).toNatClampNeg) g37
        ) else (
          jX12_instructions_89 (fun y0 g => lX12_instructions_39 n v0 v1 v2 v3 y0 g) v0 v1 v2 v3 v4 (((2001 : Int32) * v1) + v4) (hs_I g ((hs_R g v0 21) - 1) (((2001 : Int32) * v1) + v4).toNatClampNeg) (1 : Int32) g37
        )
      )
      else none else none else none else none
    )
theorem lX12_instructions_39_s (n : Nat) (v0 : Nat) (v1 : Int32) (v2 : Int32) (v3 : Int32) (v4 : Int32) (g : hs_S) : lX12_instructions_39 (n + 1) v0 v1 v2 v3 v4 g =
    if v3 ≤ v4 then (
      some (0, v4, g)
    ) else (
      if hs_kd g v0 = 10 then
      if ¬ (hs_R g v0 21) = 0 then
      if hs_kd g ((hs_R g v0 21) - 1) = 100 then
      if hs_in (((2001 : Int32) * v1) + v4) (hs_ln g ((hs_R g v0 21) - 1)) = true then
      hs_bd (fX12_isKind (hs_I g ((hs_R g v0 21) - 1) (((2001 : Int32) * v1) + v4).toNatClampNeg) g) fun r17 g16 =>
      if r17 = 0 then (
        jX12_instructions_88 (fun y0 g => lX12_instructions_39 n v0 v1 v2 v3 y0 g) v0 v1 v2 v3 v4 (((2001 : Int32) * v1) + v4) (hs_I g ((hs_R g v0 21) - 1) (((2001 : Int32) * v1) + v4).toNatClampNeg) g16
      ) else (
        hs_bd (fX12_size (hs_I g ((hs_R g v0 21) - 1) (((2001 : Int32) * v1) + v4).toNatClampNeg) g16) fun r38 g37 =>
        if v3 < (v4 + r38) then (
          jX12_instructions_88 (fun y0 g => lX12_instructions_39 n v0 v1 v2 v3 y0 g) v0 v1 v2 v3 v4 (((2001 : Int32) * v1) + v4) (hs_I g ((hs_R g v0 21) - 1) (((2001 : Int32) * v1) + v4).toNatClampNeg) g37
        ) else (
          jX12_instructions_89 (fun y0 g => lX12_instructions_39 n v0 v1 v2 v3 y0 g) v0 v1 v2 v3 v4 (((2001 : Int32) * v1) + v4) (hs_I g ((hs_R g v0 21) - 1) (((2001 : Int32) * v1) + v4).toNatClampNeg) (1 : Int32) g37
        )
      )
      else none else none else none else none
    ) := rfl
def fX12_instructions (v0 : Nat) (v1 : Int32) (v2 : Int32) (g : hs_S) : Option (Int32 × hs_S) :=
  if hs_kd g v0 = 10 then
  if ¬ (hs_R g v0 17) = 0 then
  if hs_kd g ((hs_R g v0 17) - 1) = 100 then
  if hs_in v1 (hs_ln g ((hs_R g v0 17) - 1)) = true then
  hs_bv (lX12_instructions_10 hs_N v0 v1 v2 (hs_I g ((hs_R g v0 17) - 1) v1.toNatClampNeg) (0 : Int32) g) fun g10 =>
  hs_b3 (lX12_instructions_39 hs_N v0 v1 v2 (hs_I g ((hs_R g v0 17) - 1) v1.toNatClampNeg) (0 : Int32) g10) fun k41 x40 g42 =>
  if k41 = 0 then (
    some ((0 : Int32), g42)
  ) else (
    if hs_kd g42 v0 = 10 then
    if ¬ (hs_R g42 v0 18) = 0 then
    if hs_kd g42 ((hs_R g42 v0 18) - 1) = 100 then
    if hs_in v1 (hs_ln g42 ((hs_R g42 v0 18) - 1)) = true then
    hs_bd (fX12_wrong v0 ((hs_I g42 ((hs_R g42 v0 18) - 1) v1.toNatClampNeg) + x40) g42) fun r49 g48 =>
    some (r49, g48)
    else none else none else none else none
  )
  else none else none else none else none
abbrev rmX12_instructions : Room := { frames := 2, cells := 0, slots := 0, locals := 40 }
set_option maxHeartbeats 4000000 in
set_option maxRecDepth 100000 in
theorem wX12_instructions_10 {p : Program} {l : Launch} {e : Env} {s : State} {m : MethodId} {args : Array Value} {below : List Frame} {meth : Method} {c : Code} {B : Nat} {D : va_G} {E : Nat → ClassId} (hX : hs_cx cX12_instructions (some .int) 9 RX12 wcX12_instructions p s m args meth c D E) {Q : State → Prop} {o : hs_S} {v0 : Nat} {v1 : Int32} {v2 : Int32} {v3 : Int32} (hex0 : ∀ (H : Heap) (locs : List Loc) (ls : Array Slot), hs_P B D E (o) H → hs_Sx B s.heap H locs → lv_has ls 9 [(0, .ref (B + v0)), (1, .int v1), (2, .int v2), (3, .int v3)] → W p l e rmX12_instructions s m args below meth c H locs 0 0 Q (F0 m 36 ls [])) : ∀ (n : Nat) (v4 : Int32) (g : hs_S), lX12_instructions_10 n v0 v1 v2 v3 v4 g = some o → ∀ (H : Heap) (locs : List Loc) (ls : Array Slot), hs_P B D E g H → hs_Sx B s.heap H locs → lv_has ls 9 [(0, .ref (B + v0)), (1, .int v1), (2, .int v2), (3, .int v3), (4, .int v4)] → W p l e rmX12_instructions s m args below meth c H locs 0 0 Q (F0 m 10 ls []) := by
  obtain ⟨hx, hb, hr, hml, hown, hts, hlocks, hK⟩ := id hX
  intro n
  induction n with
  | zero =>
    intro v4 g hf
    cases hf
  | succ n ih =>
    intro v4 g hf H locs ls hP hS hl
    replace hf := (lX12_instructions_10_s n v0 v1 v2 v3 v4 g).symm.trans hf
    refine lv_iload hx hb dX12_instructions_10 (lv_at hl 4 rfl) ?_
    refine lv_iload_n hx hb dX12_instructions_12 rfl (lv_at hl 3 rfl) ?_
    refine lv_icmp_gt (tgt := 36) hx hb dX12_instructions_13 (by decide) (fun hc => ?_) (fun hc => ?_)
    · replace hf := hs_t hf hc
      obtain rfl := Option.some.inj hf
      exact hex0 _ _ _ hP hS (lv_sub hl [0, 1, 2, 3] rfl)
    · replace hf := hs_f hf hc
      refine lv_aload_n hx hb dX12_instructions_16 rfl (lv_at hl 0 rfl) ?_
      obtain ⟨h5, hf⟩ := hs_ck hf
      obtain ⟨h6, hf⟩ := hs_ck hf
      refine hs_getr (C := RX12) (T := TX12) (N := 48) hx hb hts (fun w h => List.mem_cons_of_mem _ (inlX12 w h)) hown hK.1 hP h5 (by decide) rfl 11 (by decide) (hts _ (List.mem_cons_of_mem _ wq130)) (fun _ h => h) rfl h6 dX12_instructions_17 ?_
      refine lv_sipush (v := 2001) hx hb dX12_instructions_20 (by decide) ?_
      refine lv_iload_n hx hb dX12_instructions_23 rfl (lv_at hl 1 rfl) ?_
      refine lv_imul hx hb dX12_instructions_24 ?_
      refine lv_iload hx hb dX12_instructions_25 (lv_at hl 4 rfl) ?_
      refine lv_iadd hx hb dX12_instructions_27 ?_
      refine lv_iconst (v := 0) hx hb dX12_instructions_28 (by decide) ?_
      obtain ⟨h7, hf⟩ := hs_ck hf
      obtain ⟨h8, hf⟩ := hs_ck hf
      refine hs_zast hx hb hK.1 hP hS h7 h8 (rfl) dX12_instructions_29 (fun H locs hP hS => ?_)
      refine lv_iinc (v := (v4 + (1 : Int32))) (lv' := [(4, .int (v4 + (1 : Int32))), (0, .ref (B + v0)), (1, .int v1), (2, .int v2), (3, .int v3)]) hx hb dX12_instructions_30 hl (k := 4) rfl (by rfl) (by decide) rfl (fun ls hl => ?_)
      refine lv_goto (tgt := 10) hx hb dX12_instructions_33 (by decide) ?_
      exact ih _ _ hf _ _ _ hP hS (lv_sub hl [1, 2, 3, 4, 0] rfl)

set_option maxHeartbeats 4000000 in
set_option maxRecDepth 100000 in
theorem wX12_instructions_j231 {p : Program} {l : Launch} {e : Env} {s : State} {m : MethodId} {args : Array Value} {below : List Frame} {meth : Method} {c : Code} {B : Nat} {D : va_G} {E : Nat → ClassId} (hX : hs_cx cX12_instructions (some .int) 9 RX12 wcX12_instructions p s m args meth c D E) {Q : State → Prop} {o : Nat × Int32 × hs_S} {rec : Int32 → hs_S → Option (Nat × Int32 × hs_S)} {v0 : Nat} {v1 : Int32} {v2 : Int32} {v3 : Int32} {v4 : Int32} {v5 : Int32} {v6 : Int32} {v7 : Int32}  (hrec : ∀ (y0 : Int32) (g : hs_S) (H : Heap) (locs : List Loc) (ls : Array Slot), rec y0 g = some o → hs_P B D E g H → hs_Sx B s.heap H locs → lv_has ls 9 [(0, .ref (B + v0)), (1, .int v1), (2, .int v2), (3, .int v3), (4, .int y0)] → W p l e rmX12_instructions s m args below meth c H locs 0 0 Q (F0 m 39 ls [])) (hex0 : o.1 = 0 → ∀ (H : Heap) (locs : List Loc) (ls : Array Slot), hs_P B D E (o.2.2) H → hs_Sx B s.heap H locs → lv_has ls 9 [] → W p l e rmX12_instructions s m args below meth c H locs 0 0 Q (F0 m 271 ls [])) (hex1 : o.1 = 1 → ∀ (H : Heap) (locs : List Loc) (ls : Array Slot), hs_P B D E (o.2.2) H → hs_Sx B s.heap H locs → lv_has ls 9 [(0, .ref (B + v0)), (1, .int v1), (4, .int (o.2.1))] → W p l e rmX12_instructions s m args below meth c H locs 0 0 Q (F0 m 236 ls [])) {g : hs_S} {H : Heap} {locs : List Loc} {ls : Array Slot} (hf : jX12_instructions_231 rec v0 v1 v2 v3 v4 v5 v6 v7 g = some o) (hP : hs_P B D E g H) (hS : hs_Sx B s.heap H locs) (hl : lv_has ls 9 [(0, .ref (B + v0)), (1, .int v1), (2, .int v2), (3, .int v3), (4, .int v4), (5, .int v5), (6, .int v6), (7, .int v7)]) : W p l e rmX12_instructions s m args below meth c H locs 0 0 Q (F0 m 231 ls []) := by
  obtain ⟨hx, hb, hr, hml, hown, hts, hlocks, hK⟩ := id hX
  unfold jX12_instructions_231 at hf
  refine lv_iload hx hb dX12_instructions_231 (lv_at hl 7 rfl) ?_
  refine lv_if_ne (tgt := 250) hx hb dX12_instructions_233 (by decide) (fun hc => ?_) (fun hc => ?_)
  · replace hf := hs_f hf hc
    refine lv_aload_n hx hb dX12_instructions_250 rfl (lv_at hl 0 rfl) ?_
    obtain ⟨h19, hf⟩ := hs_ck hf
    obtain ⟨h20, hf⟩ := hs_ck hf
    refine hs_getr (C := RX12) (T := TX12) (N := 48) hx hb hts (fun w h => List.mem_cons_of_mem _ (inlX12 w h)) hown hK.1 hP h19 (by decide) rfl 11 (by decide) (hts _ (List.mem_cons_of_mem _ wq130)) (fun _ h => h) rfl h20 dX12_instructions_251 ?_
    refine lv_iload hx hb dX12_instructions_254 (lv_at hl 5 rfl) ?_
    refine lv_iconst (v := 1) hx hb dX12_instructions_256 (by decide) ?_
    obtain ⟨h21, hf⟩ := hs_ck hf
    obtain ⟨h22, hf⟩ := hs_ck hf
    refine hs_zast hx hb hK.1 hP hS h21 h22 (rfl) dX12_instructions_257 (fun H locs hP hS => ?_)
    refine lv_iload hx hb dX12_instructions_258 (lv_at hl 4 rfl) ?_
    refine lv_iload hx hb dX12_instructions_260 (lv_at hl 6 rfl) ?_
    obtain ⟨r24, g23, h25, hf⟩ := hs_bd_some hf
    refine hs_calli (va_runS (As := [.int v6]) (rest := [.int v4]) ⟨hx, hb, hml, hown, hts⟩ (ctX12_size l B D E v6 (hs_wI g ((hs_R g v0 11) - 1) v5.toNatClampNeg (1 : Int32)) _ h25) (va_cwS 1 hts (hs_gS (fun _ h => List.mem_cons_of_mem _ h) wq423 wq424 wq5 wq425) rfl rfl rfl (by decide +kernel) ⟨Nat.le_of_ble_eq_true rfl, Nat.le_of_ble_eq_true rfl⟩) (hs_pre hP hK) rfl rfl hl.1 rfl (lv_room (Nat.le_of_ble_eq_true rfl)) dX12_instructions_262 ⟨(Nat.le_of_ble_eq_true rfl), (Nat.le_of_ble_eq_true rfl)⟩) hS (fun H locs hP hS => ?_)
    refine lv_iadd hx hb dX12_instructions_265 ?_
    refine lv_istore (lv' := [(4, .int (v4 + r24)), (0, .ref (B + v0)), (1, .int v1), (2, .int v2), (3, .int v3), (5, .int v5), (6, .int v6), (7, .int v7)]) hx hb dX12_instructions_266 hl (by decide) rfl (fun ls hl => ?_)
    refine lv_goto (tgt := 39) hx hb dX12_instructions_268 (by decide) ?_
    exact hrec _ _ _ _ _ hf hP hS (lv_sub hl [1, 2, 3, 4, 0] rfl)
  · replace hf := hs_t hf hc
    obtain rfl := Option.some.inj hf
    exact hex1 rfl _ _ _ hP hS (lv_sub hl [0, 1, 4] rfl)

set_option maxHeartbeats 4000000 in
set_option maxRecDepth 100000 in
theorem wX12_instructions_j229 {p : Program} {l : Launch} {e : Env} {s : State} {m : MethodId} {args : Array Value} {below : List Frame} {meth : Method} {c : Code} {B : Nat} {D : va_G} {E : Nat → ClassId} (hX : hs_cx cX12_instructions (some .int) 9 RX12 wcX12_instructions p s m args meth c D E) {Q : State → Prop} {o : Nat × Int32 × hs_S} {rec : Int32 → hs_S → Option (Nat × Int32 × hs_S)} {v0 : Nat} {v1 : Int32} {v2 : Int32} {v3 : Int32} {v4 : Int32} {v5 : Int32} {v6 : Int32} {s0 : Int32}  (hrec : ∀ (y0 : Int32) (g : hs_S) (H : Heap) (locs : List Loc) (ls : Array Slot), rec y0 g = some o → hs_P B D E g H → hs_Sx B s.heap H locs → lv_has ls 9 [(0, .ref (B + v0)), (1, .int v1), (2, .int v2), (3, .int v3), (4, .int y0)] → W p l e rmX12_instructions s m args below meth c H locs 0 0 Q (F0 m 39 ls [])) (hex0 : o.1 = 0 → ∀ (H : Heap) (locs : List Loc) (ls : Array Slot), hs_P B D E (o.2.2) H → hs_Sx B s.heap H locs → lv_has ls 9 [] → W p l e rmX12_instructions s m args below meth c H locs 0 0 Q (F0 m 271 ls [])) (hex1 : o.1 = 1 → ∀ (H : Heap) (locs : List Loc) (ls : Array Slot), hs_P B D E (o.2.2) H → hs_Sx B s.heap H locs → lv_has ls 9 [(0, .ref (B + v0)), (1, .int v1), (4, .int (o.2.1))] → W p l e rmX12_instructions s m args below meth c H locs 0 0 Q (F0 m 236 ls [])) {g : hs_S} {H : Heap} {locs : List Loc} {ls : Array Slot} (hf : jX12_instructions_229 rec v0 v1 v2 v3 v4 v5 v6 s0 g = some o) (hP : hs_P B D E g H) (hS : hs_Sx B s.heap H locs) (hl : lv_has ls 9 [(0, .ref (B + v0)), (1, .int v1), (2, .int v2), (3, .int v3), (4, .int v4), (5, .int v5), (6, .int v6)]) : W p l e rmX12_instructions s m args below meth c H locs 0 0 Q (F0 m 229 ls [.int s0]) := by
  obtain ⟨hx, hb, hr, hml, hown, hts, hlocks, hK⟩ := id hX
  unfold jX12_instructions_229 at hf
  refine lv_istore (lv' := [(7, .int s0), (0, .ref (B + v0)), (1, .int v1), (2, .int v2), (3, .int v3), (4, .int v4), (5, .int v5), (6, .int v6)]) hx hb dX12_instructions_229 hl (by decide) rfl (fun ls hl => ?_)
  exact wX12_instructions_j231 hX hrec hex0 hex1 hf hP hS (lv_sub hl [1, 2, 3, 4, 5, 6, 7, 0] rfl)

set_option maxHeartbeats 4000000 in
set_option maxRecDepth 100000 in
theorem wX12_instructions_j228 {p : Program} {l : Launch} {e : Env} {s : State} {m : MethodId} {args : Array Value} {below : List Frame} {meth : Method} {c : Code} {B : Nat} {D : va_G} {E : Nat → ClassId} (hX : hs_cx cX12_instructions (some .int) 9 RX12 wcX12_instructions p s m args meth c D E) {Q : State → Prop} {o : Nat × Int32 × hs_S} {rec : Int32 → hs_S → Option (Nat × Int32 × hs_S)} {v0 : Nat} {v1 : Int32} {v2 : Int32} {v3 : Int32} {v4 : Int32} {v5 : Int32} {v6 : Int32}  (hrec : ∀ (y0 : Int32) (g : hs_S) (H : Heap) (locs : List Loc) (ls : Array Slot), rec y0 g = some o → hs_P B D E g H → hs_Sx B s.heap H locs → lv_has ls 9 [(0, .ref (B + v0)), (1, .int v1), (2, .int v2), (3, .int v3), (4, .int y0)] → W p l e rmX12_instructions s m args below meth c H locs 0 0 Q (F0 m 39 ls [])) (hex0 : o.1 = 0 → ∀ (H : Heap) (locs : List Loc) (ls : Array Slot), hs_P B D E (o.2.2) H → hs_Sx B s.heap H locs → lv_has ls 9 [] → W p l e rmX12_instructions s m args below meth c H locs 0 0 Q (F0 m 271 ls [])) (hex1 : o.1 = 1 → ∀ (H : Heap) (locs : List Loc) (ls : Array Slot), hs_P B D E (o.2.2) H → hs_Sx B s.heap H locs → lv_has ls 9 [(0, .ref (B + v0)), (1, .int v1), (4, .int (o.2.1))] → W p l e rmX12_instructions s m args below meth c H locs 0 0 Q (F0 m 236 ls [])) {g : hs_S} {H : Heap} {locs : List Loc} {ls : Array Slot} (hf : jX12_instructions_228 rec v0 v1 v2 v3 v4 v5 v6 g = some o) (hP : hs_P B D E g H) (hS : hs_Sx B s.heap H locs) (hl : lv_has ls 9 [(0, .ref (B + v0)), (1, .int v1), (2, .int v2), (3, .int v3), (4, .int v4), (5, .int v5), (6, .int v6)]) : W p l e rmX12_instructions s m args below meth c H locs 0 0 Q (F0 m 228 ls []) := by
  obtain ⟨hx, hb, hr, hml, hown, hts, hlocks, hK⟩ := id hX
  unfold jX12_instructions_228 at hf
  refine lv_iconst (v := 0) hx hb dX12_instructions_228 (by decide) ?_
  exact wX12_instructions_j229 hX hrec hex0 hex1 hf hP hS (lv_sub hl [0, 1, 2, 3, 4, 5, 6] rfl)

set_option maxHeartbeats 4000000 in
set_option maxRecDepth 100000 in
theorem wX12_instructions_j213 {p : Program} {l : Launch} {e : Env} {s : State} {m : MethodId} {args : Array Value} {below : List Frame} {meth : Method} {c : Code} {B : Nat} {D : va_G} {E : Nat → ClassId} (hX : hs_cx cX12_instructions (some .int) 9 RX12 wcX12_instructions p s m args meth c D E) {Q : State → Prop} {o : Nat × Int32 × hs_S} {rec : Int32 → hs_S → Option (Nat × Int32 × hs_S)} {v0 : Nat} {v1 : Int32} {v2 : Int32} {v3 : Int32} {v4 : Int32} {v5 : Int32} {v6 : Int32} {v7 : Int32} {v8 : Int32}  (hrec : ∀ (y0 : Int32) (g : hs_S) (H : Heap) (locs : List Loc) (ls : Array Slot), rec y0 g = some o → hs_P B D E g H → hs_Sx B s.heap H locs → lv_has ls 9 [(0, .ref (B + v0)), (1, .int v1), (2, .int v2), (3, .int v3), (4, .int y0)] → W p l e rmX12_instructions s m args below meth c H locs 0 0 Q (F0 m 39 ls [])) (hex0 : o.1 = 0 → ∀ (H : Heap) (locs : List Loc) (ls : Array Slot), hs_P B D E (o.2.2) H → hs_Sx B s.heap H locs → lv_has ls 9 [] → W p l e rmX12_instructions s m args below meth c H locs 0 0 Q (F0 m 271 ls [])) (hex1 : o.1 = 1 → ∀ (H : Heap) (locs : List Loc) (ls : Array Slot), hs_P B D E (o.2.2) H → hs_Sx B s.heap H locs → lv_has ls 9 [(0, .ref (B + v0)), (1, .int v1), (4, .int (o.2.1))] → W p l e rmX12_instructions s m args below meth c H locs 0 0 Q (F0 m 236 ls [])) {g : hs_S} {H : Heap} {locs : List Loc} {ls : Array Slot} (hf : jX12_instructions_213 rec v0 v1 v2 v3 v4 v5 v6 v7 v8 g = some o) (hP : hs_P B D E g H) (hS : hs_Sx B s.heap H locs) (hl : lv_has ls 9 [(0, .ref (B + v0)), (1, .int v1), (2, .int v2), (3, .int v3), (4, .int v4), (5, .int v5), (6, .int v6), (7, .int v7), (8, .int v8)]) : W p l e rmX12_instructions s m args below meth c H locs 0 0 Q (F0 m 213 ls []) := by
  obtain ⟨hx, hb, hr, hml, hown, hts, hlocks, hK⟩ := id hX
  unfold jX12_instructions_213 at hf
  refine lv_iload hx hb dX12_instructions_213 (lv_at hl 7 rfl) ?_
  refine lv_if_eq (tgt := 228) hx hb dX12_instructions_215 (by decide) (fun hc => ?_) (fun hc => ?_)
  · replace hf := hs_t hf hc
    exact wX12_instructions_j228 hX hrec hex0 hex1 hf hP hS (lv_sub hl [0, 1, 2, 3, 4, 5, 6] rfl)
  · replace hf := hs_f hf hc
    refine lv_iload hx hb dX12_instructions_218 (lv_at hl 8 rfl) ?_
    refine lv_iconst (v := 4) hx hb dX12_instructions_220 (by decide) ?_
    refine lv_icmp_ge (tgt := 228) hx hb dX12_instructions_221 (by decide) (fun hc => ?_) (fun hc => ?_)
    · replace hf := hs_t hf hc
      exact wX12_instructions_j228 hX hrec hex0 hex1 hf hP hS (lv_sub hl [0, 1, 2, 3, 4, 5, 6] rfl)
    · replace hf := hs_f hf hc
      refine lv_iconst (v := 1) hx hb dX12_instructions_224 (by decide) ?_
      refine lv_goto (tgt := 229) hx hb dX12_instructions_225 (by decide) ?_
      exact wX12_instructions_j229 hX hrec hex0 hex1 hf hP hS (lv_sub hl [0, 1, 2, 3, 4, 5, 6] rfl)

set_option maxHeartbeats 4000000 in
set_option maxRecDepth 100000 in
theorem wX12_instructions_j183 {p : Program} {l : Launch} {e : Env} {s : State} {m : MethodId} {args : Array Value} {below : List Frame} {meth : Method} {c : Code} {B : Nat} {D : va_G} {E : Nat → ClassId} (hX : hs_cx cX12_instructions (some .int) 9 RX12 wcX12_instructions p s m args meth c D E) {Q : State → Prop} {o : Nat × Int32 × hs_S} {rec : Int32 → hs_S → Option (Nat × Int32 × hs_S)} {v0 : Nat} {v1 : Int32} {v2 : Int32} {v3 : Int32} {v4 : Int32} {v5 : Int32} {v6 : Int32} {v7 : Int32} {v8 : Int32}  (hrec : ∀ (y0 : Int32) (g : hs_S) (H : Heap) (locs : List Loc) (ls : Array Slot), rec y0 g = some o → hs_P B D E g H → hs_Sx B s.heap H locs → lv_has ls 9 [(0, .ref (B + v0)), (1, .int v1), (2, .int v2), (3, .int v3), (4, .int y0)] → W p l e rmX12_instructions s m args below meth c H locs 0 0 Q (F0 m 39 ls [])) (hex0 : o.1 = 0 → ∀ (H : Heap) (locs : List Loc) (ls : Array Slot), hs_P B D E (o.2.2) H → hs_Sx B s.heap H locs → lv_has ls 9 [] → W p l e rmX12_instructions s m args below meth c H locs 0 0 Q (F0 m 271 ls [])) (hex1 : o.1 = 1 → ∀ (H : Heap) (locs : List Loc) (ls : Array Slot), hs_P B D E (o.2.2) H → hs_Sx B s.heap H locs → lv_has ls 9 [(0, .ref (B + v0)), (1, .int v1), (4, .int (o.2.1))] → W p l e rmX12_instructions s m args below meth c H locs 0 0 Q (F0 m 236 ls [])) {g : hs_S} {H : Heap} {locs : List Loc} {ls : Array Slot} (hf : jX12_instructions_183 rec v0 v1 v2 v3 v4 v5 v6 v7 v8 g = some o) (hP : hs_P B D E g H) (hS : hs_Sx B s.heap H locs) (hl : lv_has ls 9 [(0, .ref (B + v0)), (1, .int v1), (2, .int v2), (3, .int v3), (4, .int v4), (5, .int v5), (6, .int v6), (7, .int v7), (8, .int v8)]) : W p l e rmX12_instructions s m args below meth c H locs 0 0 Q (F0 m 183 ls []) := by
  obtain ⟨hx, hb, hr, hml, hown, hts, hlocks, hK⟩ := id hX
  unfold jX12_instructions_183 at hf
  refine lv_iload hx hb dX12_instructions_183 (lv_at hl 6 rfl) ?_
  refine lv_sipush (v := 188) hx hb dX12_instructions_185 (by decide) ?_
  refine lv_icmp_eq (tgt := 213) hx hb dX12_instructions_188 (by decide) (fun hc => ?_) (fun hc => ?_)
  · replace hf := hs_t hf hc
    exact wX12_instructions_j213 hX hrec hex0 hex1 hf hP hS (lv_sub hl [0, 1, 2, 3, 4, 5, 6, 7, 8] rfl)
  · replace hf := hs_f hf hc
    refine lv_iload hx hb dX12_instructions_191 (lv_at hl 6 rfl) ?_
    refine lv_sipush (v := 190) hx hb dX12_instructions_193 (by decide) ?_
    refine lv_icmp_eq (tgt := 213) hx hb dX12_instructions_196 (by decide) (fun hc => ?_) (fun hc => ?_)
    · replace hf := hs_t hf hc
      exact wX12_instructions_j213 hX hrec hex0 hex1 hf hP hS (lv_sub hl [0, 1, 2, 3, 4, 5, 6, 7, 8] rfl)
    · replace hf := hs_f hf hc
      refine lv_iload hx hb dX12_instructions_199 (lv_at hl 6 rfl) ?_
      refine lv_bipush (v := 46) hx hb dX12_instructions_201 (by decide) ?_
      refine lv_icmp_eq (tgt := 213) hx hb dX12_instructions_203 (by decide) (fun hc => ?_) (fun hc => ?_)
      · replace hf := hs_t hf hc
        exact wX12_instructions_j213 hX hrec hex0 hex1 hf hP hS (lv_sub hl [0, 1, 2, 3, 4, 5, 6, 7, 8] rfl)
      · replace hf := hs_f hf hc
        refine lv_iload hx hb dX12_instructions_206 (lv_at hl 6 rfl) ?_
        refine lv_bipush (v := 79) hx hb dX12_instructions_208 (by decide) ?_
        refine lv_icmp_ne (tgt := 231) hx hb dX12_instructions_210 (by decide) (fun hc => ?_) (fun hc => ?_)
        · replace hf := hs_f hf hc
          exact wX12_instructions_j231 hX hrec hex0 hex1 hf hP hS (lv_sub hl [0, 1, 2, 3, 4, 5, 6, 7] rfl)
        · replace hf := hs_t hf hc
          exact wX12_instructions_j213 hX hrec hex0 hex1 hf hP hS (lv_sub hl [0, 1, 2, 3, 4, 5, 6, 7, 8] rfl)

set_option maxHeartbeats 4000000 in
set_option maxRecDepth 100000 in
theorem wX12_instructions_j181 {p : Program} {l : Launch} {e : Env} {s : State} {m : MethodId} {args : Array Value} {below : List Frame} {meth : Method} {c : Code} {B : Nat} {D : va_G} {E : Nat → ClassId} (hX : hs_cx cX12_instructions (some .int) 9 RX12 wcX12_instructions p s m args meth c D E) {Q : State → Prop} {o : Nat × Int32 × hs_S} {rec : Int32 → hs_S → Option (Nat × Int32 × hs_S)} {v0 : Nat} {v1 : Int32} {v2 : Int32} {v3 : Int32} {v4 : Int32} {v5 : Int32} {v6 : Int32} {v8 : Int32} {s0 : Int32}  (hrec : ∀ (y0 : Int32) (g : hs_S) (H : Heap) (locs : List Loc) (ls : Array Slot), rec y0 g = some o → hs_P B D E g H → hs_Sx B s.heap H locs → lv_has ls 9 [(0, .ref (B + v0)), (1, .int v1), (2, .int v2), (3, .int v3), (4, .int y0)] → W p l e rmX12_instructions s m args below meth c H locs 0 0 Q (F0 m 39 ls [])) (hex0 : o.1 = 0 → ∀ (H : Heap) (locs : List Loc) (ls : Array Slot), hs_P B D E (o.2.2) H → hs_Sx B s.heap H locs → lv_has ls 9 [] → W p l e rmX12_instructions s m args below meth c H locs 0 0 Q (F0 m 271 ls [])) (hex1 : o.1 = 1 → ∀ (H : Heap) (locs : List Loc) (ls : Array Slot), hs_P B D E (o.2.2) H → hs_Sx B s.heap H locs → lv_has ls 9 [(0, .ref (B + v0)), (1, .int v1), (4, .int (o.2.1))] → W p l e rmX12_instructions s m args below meth c H locs 0 0 Q (F0 m 236 ls [])) {g : hs_S} {H : Heap} {locs : List Loc} {ls : Array Slot} (hf : jX12_instructions_181 rec v0 v1 v2 v3 v4 v5 v6 v8 s0 g = some o) (hP : hs_P B D E g H) (hS : hs_Sx B s.heap H locs) (hl : lv_has ls 9 [(0, .ref (B + v0)), (1, .int v1), (2, .int v2), (3, .int v3), (4, .int v4), (5, .int v5), (6, .int v6), (8, .int v8)]) : W p l e rmX12_instructions s m args below meth c H locs 0 0 Q (F0 m 181 ls [.int s0]) := by
  obtain ⟨hx, hb, hr, hml, hown, hts, hlocks, hK⟩ := id hX
  unfold jX12_instructions_181 at hf
  refine lv_istore (lv' := [(7, .int s0), (0, .ref (B + v0)), (1, .int v1), (2, .int v2), (3, .int v3), (4, .int v4), (5, .int v5), (6, .int v6), (8, .int v8)]) hx hb dX12_instructions_181 hl (by decide) rfl (fun ls hl => ?_)
  exact wX12_instructions_j183 hX hrec hex0 hex1 hf hP hS (lv_sub hl [1, 2, 3, 4, 5, 6, 7, 0, 8] rfl)

set_option maxHeartbeats 4000000 in
set_option maxRecDepth 100000 in
theorem wX12_instructions_j180 {p : Program} {l : Launch} {e : Env} {s : State} {m : MethodId} {args : Array Value} {below : List Frame} {meth : Method} {c : Code} {B : Nat} {D : va_G} {E : Nat → ClassId} (hX : hs_cx cX12_instructions (some .int) 9 RX12 wcX12_instructions p s m args meth c D E) {Q : State → Prop} {o : Nat × Int32 × hs_S} {rec : Int32 → hs_S → Option (Nat × Int32 × hs_S)} {v0 : Nat} {v1 : Int32} {v2 : Int32} {v3 : Int32} {v4 : Int32} {v5 : Int32} {v6 : Int32} {v8 : Int32}  (hrec : ∀ (y0 : Int32) (g : hs_S) (H : Heap) (locs : List Loc) (ls : Array Slot), rec y0 g = some o → hs_P B D E g H → hs_Sx B s.heap H locs → lv_has ls 9 [(0, .ref (B + v0)), (1, .int v1), (2, .int v2), (3, .int v3), (4, .int y0)] → W p l e rmX12_instructions s m args below meth c H locs 0 0 Q (F0 m 39 ls [])) (hex0 : o.1 = 0 → ∀ (H : Heap) (locs : List Loc) (ls : Array Slot), hs_P B D E (o.2.2) H → hs_Sx B s.heap H locs → lv_has ls 9 [] → W p l e rmX12_instructions s m args below meth c H locs 0 0 Q (F0 m 271 ls [])) (hex1 : o.1 = 1 → ∀ (H : Heap) (locs : List Loc) (ls : Array Slot), hs_P B D E (o.2.2) H → hs_Sx B s.heap H locs → lv_has ls 9 [(0, .ref (B + v0)), (1, .int v1), (4, .int (o.2.1))] → W p l e rmX12_instructions s m args below meth c H locs 0 0 Q (F0 m 236 ls [])) {g : hs_S} {H : Heap} {locs : List Loc} {ls : Array Slot} (hf : jX12_instructions_180 rec v0 v1 v2 v3 v4 v5 v6 v8 g = some o) (hP : hs_P B D E g H) (hS : hs_Sx B s.heap H locs) (hl : lv_has ls 9 [(0, .ref (B + v0)), (1, .int v1), (2, .int v2), (3, .int v3), (4, .int v4), (5, .int v5), (6, .int v6), (8, .int v8)]) : W p l e rmX12_instructions s m args below meth c H locs 0 0 Q (F0 m 180 ls []) := by
  obtain ⟨hx, hb, hr, hml, hown, hts, hlocks, hK⟩ := id hX
  unfold jX12_instructions_180 at hf
  refine lv_iconst (v := 0) hx hb dX12_instructions_180 (by decide) ?_
  exact wX12_instructions_j181 hX hrec hex0 hex1 hf hP hS (lv_sub hl [0, 1, 2, 3, 4, 5, 6, 7] rfl)

set_option maxHeartbeats 4000000 in
set_option maxRecDepth 100000 in
theorem wX12_instructions_j157 {p : Program} {l : Launch} {e : Env} {s : State} {m : MethodId} {args : Array Value} {below : List Frame} {meth : Method} {c : Code} {B : Nat} {D : va_G} {E : Nat → ClassId} (hX : hs_cx cX12_instructions (some .int) 9 RX12 wcX12_instructions p s m args meth c D E) {Q : State → Prop} {o : Nat × Int32 × hs_S} {rec : Int32 → hs_S → Option (Nat × Int32 × hs_S)} {v0 : Nat} {v1 : Int32} {v2 : Int32} {v3 : Int32} {v4 : Int32} {v5 : Int32} {v6 : Int32} {v7 : Int32} {v8 : Int32}  (hrec : ∀ (y0 : Int32) (g : hs_S) (H : Heap) (locs : List Loc) (ls : Array Slot), rec y0 g = some o → hs_P B D E g H → hs_Sx B s.heap H locs → lv_has ls 9 [(0, .ref (B + v0)), (1, .int v1), (2, .int v2), (3, .int v3), (4, .int y0)] → W p l e rmX12_instructions s m args below meth c H locs 0 0 Q (F0 m 39 ls [])) (hex0 : o.1 = 0 → ∀ (H : Heap) (locs : List Loc) (ls : Array Slot), hs_P B D E (o.2.2) H → hs_Sx B s.heap H locs → lv_has ls 9 [] → W p l e rmX12_instructions s m args below meth c H locs 0 0 Q (F0 m 271 ls [])) (hex1 : o.1 = 1 → ∀ (H : Heap) (locs : List Loc) (ls : Array Slot), hs_P B D E (o.2.2) H → hs_Sx B s.heap H locs → lv_has ls 9 [(0, .ref (B + v0)), (1, .int v1), (4, .int (o.2.1))] → W p l e rmX12_instructions s m args below meth c H locs 0 0 Q (F0 m 236 ls [])) {g : hs_S} {H : Heap} {locs : List Loc} {ls : Array Slot} (hf : jX12_instructions_157 rec v0 v1 v2 v3 v4 v5 v6 v7 v8 g = some o) (hP : hs_P B D E g H) (hS : hs_Sx B s.heap H locs) (hl : lv_has ls 9 [(0, .ref (B + v0)), (1, .int v1), (2, .int v2), (3, .int v3), (4, .int v4), (5, .int v5), (6, .int v6), (7, .int v7), (8, .int v8)]) : W p l e rmX12_instructions s m args below meth c H locs 0 0 Q (F0 m 157 ls []) := by
  obtain ⟨hx, hb, hr, hml, hown, hts, hlocks, hK⟩ := id hX
  unfold jX12_instructions_157 at hf
  refine lv_iload hx hb dX12_instructions_157 (lv_at hl 6 rfl) ?_
  refine lv_sipush (v := 184) hx hb dX12_instructions_159 (by decide) ?_
  refine lv_icmp_ne (tgt := 183) hx hb dX12_instructions_162 (by decide) (fun hc => ?_) (fun hc => ?_)
  · replace hf := hs_f hf hc
    exact wX12_instructions_j183 hX hrec hex0 hex1 hf hP hS (lv_sub hl [0, 1, 2, 3, 4, 5, 6, 7, 8] rfl)
  · replace hf := hs_t hf hc
    refine lv_iload hx hb dX12_instructions_165 (lv_at hl 7 rfl) ?_
    refine lv_if_eq (tgt := 180) hx hb dX12_instructions_167 (by decide) (fun hc => ?_) (fun hc => ?_)
    · replace hf := hs_t hf hc
      exact wX12_instructions_j180 hX hrec hex0 hex1 hf hP hS (lv_sub hl [0, 1, 2, 3, 4, 5, 6, 8] rfl)
    · replace hf := hs_f hf hc
      refine lv_iload hx hb dX12_instructions_170 (lv_at hl 8 rfl) ?_
      refine lv_iload_n hx hb dX12_instructions_172 rfl (lv_at hl 2 rfl) ?_
      refine lv_icmp_ge (tgt := 180) hx hb dX12_instructions_173 (by decide) (fun hc => ?_) (fun hc => ?_)
      · replace hf := hs_t hf hc
        exact wX12_instructions_j180 hX hrec hex0 hex1 hf hP hS (lv_sub hl [0, 1, 2, 3, 4, 5, 6, 8] rfl)
      · replace hf := hs_f hf hc
        refine lv_iconst (v := 1) hx hb dX12_instructions_176 (by decide) ?_
        refine lv_goto (tgt := 181) hx hb dX12_instructions_177 (by decide) ?_
        exact wX12_instructions_j181 hX hrec hex0 hex1 hf hP hS (lv_sub hl [0, 1, 2, 3, 4, 5, 6, 8] rfl)

set_option maxHeartbeats 4000000 in
set_option maxRecDepth 100000 in
theorem wX12_instructions_j155 {p : Program} {l : Launch} {e : Env} {s : State} {m : MethodId} {args : Array Value} {below : List Frame} {meth : Method} {c : Code} {B : Nat} {D : va_G} {E : Nat → ClassId} (hX : hs_cx cX12_instructions (some .int) 9 RX12 wcX12_instructions p s m args meth c D E) {Q : State → Prop} {o : Nat × Int32 × hs_S} {rec : Int32 → hs_S → Option (Nat × Int32 × hs_S)} {v0 : Nat} {v1 : Int32} {v2 : Int32} {v3 : Int32} {v4 : Int32} {v5 : Int32} {v6 : Int32} {v8 : Int32} {s0 : Int32}  (hrec : ∀ (y0 : Int32) (g : hs_S) (H : Heap) (locs : List Loc) (ls : Array Slot), rec y0 g = some o → hs_P B D E g H → hs_Sx B s.heap H locs → lv_has ls 9 [(0, .ref (B + v0)), (1, .int v1), (2, .int v2), (3, .int v3), (4, .int y0)] → W p l e rmX12_instructions s m args below meth c H locs 0 0 Q (F0 m 39 ls [])) (hex0 : o.1 = 0 → ∀ (H : Heap) (locs : List Loc) (ls : Array Slot), hs_P B D E (o.2.2) H → hs_Sx B s.heap H locs → lv_has ls 9 [] → W p l e rmX12_instructions s m args below meth c H locs 0 0 Q (F0 m 271 ls [])) (hex1 : o.1 = 1 → ∀ (H : Heap) (locs : List Loc) (ls : Array Slot), hs_P B D E (o.2.2) H → hs_Sx B s.heap H locs → lv_has ls 9 [(0, .ref (B + v0)), (1, .int v1), (4, .int (o.2.1))] → W p l e rmX12_instructions s m args below meth c H locs 0 0 Q (F0 m 236 ls [])) {g : hs_S} {H : Heap} {locs : List Loc} {ls : Array Slot} (hf : jX12_instructions_155 rec v0 v1 v2 v3 v4 v5 v6 v8 s0 g = some o) (hP : hs_P B D E g H) (hS : hs_Sx B s.heap H locs) (hl : lv_has ls 9 [(0, .ref (B + v0)), (1, .int v1), (2, .int v2), (3, .int v3), (4, .int v4), (5, .int v5), (6, .int v6), (8, .int v8)]) : W p l e rmX12_instructions s m args below meth c H locs 0 0 Q (F0 m 155 ls [.int s0]) := by
  obtain ⟨hx, hb, hr, hml, hown, hts, hlocks, hK⟩ := id hX
  unfold jX12_instructions_155 at hf
  refine lv_istore (lv' := [(7, .int s0), (0, .ref (B + v0)), (1, .int v1), (2, .int v2), (3, .int v3), (4, .int v4), (5, .int v5), (6, .int v6), (8, .int v8)]) hx hb dX12_instructions_155 hl (by decide) rfl (fun ls hl => ?_)
  exact wX12_instructions_j157 hX hrec hex0 hex1 hf hP hS (lv_sub hl [1, 2, 3, 4, 5, 6, 7, 0, 8] rfl)

set_option maxHeartbeats 4000000 in
set_option maxRecDepth 100000 in
theorem wX12_instructions_j154 {p : Program} {l : Launch} {e : Env} {s : State} {m : MethodId} {args : Array Value} {below : List Frame} {meth : Method} {c : Code} {B : Nat} {D : va_G} {E : Nat → ClassId} (hX : hs_cx cX12_instructions (some .int) 9 RX12 wcX12_instructions p s m args meth c D E) {Q : State → Prop} {o : Nat × Int32 × hs_S} {rec : Int32 → hs_S → Option (Nat × Int32 × hs_S)} {v0 : Nat} {v1 : Int32} {v2 : Int32} {v3 : Int32} {v4 : Int32} {v5 : Int32} {v6 : Int32} {v8 : Int32}  (hrec : ∀ (y0 : Int32) (g : hs_S) (H : Heap) (locs : List Loc) (ls : Array Slot), rec y0 g = some o → hs_P B D E g H → hs_Sx B s.heap H locs → lv_has ls 9 [(0, .ref (B + v0)), (1, .int v1), (2, .int v2), (3, .int v3), (4, .int y0)] → W p l e rmX12_instructions s m args below meth c H locs 0 0 Q (F0 m 39 ls [])) (hex0 : o.1 = 0 → ∀ (H : Heap) (locs : List Loc) (ls : Array Slot), hs_P B D E (o.2.2) H → hs_Sx B s.heap H locs → lv_has ls 9 [] → W p l e rmX12_instructions s m args below meth c H locs 0 0 Q (F0 m 271 ls [])) (hex1 : o.1 = 1 → ∀ (H : Heap) (locs : List Loc) (ls : Array Slot), hs_P B D E (o.2.2) H → hs_Sx B s.heap H locs → lv_has ls 9 [(0, .ref (B + v0)), (1, .int v1), (4, .int (o.2.1))] → W p l e rmX12_instructions s m args below meth c H locs 0 0 Q (F0 m 236 ls [])) {g : hs_S} {H : Heap} {locs : List Loc} {ls : Array Slot} (hf : jX12_instructions_154 rec v0 v1 v2 v3 v4 v5 v6 v8 g = some o) (hP : hs_P B D E g H) (hS : hs_Sx B s.heap H locs) (hl : lv_has ls 9 [(0, .ref (B + v0)), (1, .int v1), (2, .int v2), (3, .int v3), (4, .int v4), (5, .int v5), (6, .int v6), (8, .int v8)]) : W p l e rmX12_instructions s m args below meth c H locs 0 0 Q (F0 m 154 ls []) := by
  obtain ⟨hx, hb, hr, hml, hown, hts, hlocks, hK⟩ := id hX
  unfold jX12_instructions_154 at hf
  refine lv_iconst (v := 0) hx hb dX12_instructions_154 (by decide) ?_
  exact wX12_instructions_j155 hX hrec hex0 hex1 hf hP hS (lv_sub hl [0, 1, 2, 3, 4, 5, 6, 7] rfl)

set_option maxHeartbeats 4000000 in
set_option maxRecDepth 100000 in
theorem wX12_instructions_j134 {p : Program} {l : Launch} {e : Env} {s : State} {m : MethodId} {args : Array Value} {below : List Frame} {meth : Method} {c : Code} {B : Nat} {D : va_G} {E : Nat → ClassId} (hX : hs_cx cX12_instructions (some .int) 9 RX12 wcX12_instructions p s m args meth c D E) {Q : State → Prop} {o : Nat × Int32 × hs_S} {rec : Int32 → hs_S → Option (Nat × Int32 × hs_S)} {v0 : Nat} {v1 : Int32} {v2 : Int32} {v3 : Int32} {v4 : Int32} {v5 : Int32} {v6 : Int32} {v7 : Int32} {v8 : Int32}  (hrec : ∀ (y0 : Int32) (g : hs_S) (H : Heap) (locs : List Loc) (ls : Array Slot), rec y0 g = some o → hs_P B D E g H → hs_Sx B s.heap H locs → lv_has ls 9 [(0, .ref (B + v0)), (1, .int v1), (2, .int v2), (3, .int v3), (4, .int y0)] → W p l e rmX12_instructions s m args below meth c H locs 0 0 Q (F0 m 39 ls [])) (hex0 : o.1 = 0 → ∀ (H : Heap) (locs : List Loc) (ls : Array Slot), hs_P B D E (o.2.2) H → hs_Sx B s.heap H locs → lv_has ls 9 [] → W p l e rmX12_instructions s m args below meth c H locs 0 0 Q (F0 m 271 ls [])) (hex1 : o.1 = 1 → ∀ (H : Heap) (locs : List Loc) (ls : Array Slot), hs_P B D E (o.2.2) H → hs_Sx B s.heap H locs → lv_has ls 9 [(0, .ref (B + v0)), (1, .int v1), (4, .int (o.2.1))] → W p l e rmX12_instructions s m args below meth c H locs 0 0 Q (F0 m 236 ls [])) {g : hs_S} {H : Heap} {locs : List Loc} {ls : Array Slot} (hf : jX12_instructions_134 rec v0 v1 v2 v3 v4 v5 v6 v7 v8 g = some o) (hP : hs_P B D E g H) (hS : hs_Sx B s.heap H locs) (hl : lv_has ls 9 [(0, .ref (B + v0)), (1, .int v1), (2, .int v2), (3, .int v3), (4, .int v4), (5, .int v5), (6, .int v6), (7, .int v7), (8, .int v8)]) : W p l e rmX12_instructions s m args below meth c H locs 0 0 Q (F0 m 134 ls []) := by
  obtain ⟨hx, hb, hr, hml, hown, hts, hlocks, hK⟩ := id hX
  unfold jX12_instructions_134 at hf
  refine lv_iload hx hb dX12_instructions_134 (lv_at hl 7 rfl) ?_
  refine lv_if_eq (tgt := 154) hx hb dX12_instructions_136 (by decide) (fun hc => ?_) (fun hc => ?_)
  · replace hf := hs_t hf hc
    exact wX12_instructions_j154 hX hrec hex0 hex1 hf hP hS (lv_sub hl [0, 1, 2, 3, 4, 5, 6, 8] rfl)
  · replace hf := hs_f hf hc
    refine lv_iload hx hb dX12_instructions_139 (lv_at hl 8 rfl) ?_
    refine lv_aload_n hx hb dX12_instructions_141 rfl (lv_at hl 0 rfl) ?_
    obtain ⟨h26, hf⟩ := hs_ck hf
    obtain ⟨h27, hf⟩ := hs_ck hf
    refine hs_getr (C := RX12) (T := TX12) (N := 48) hx hb hts (fun w h => List.mem_cons_of_mem _ (inlX12 w h)) hown hK.1 hP h26 (by decide) rfl 16 (by decide) (hts _ (List.mem_cons_of_mem _ wq135)) (fun _ h => h) rfl h27 dX12_instructions_142 ?_
    refine lv_iload_n hx hb dX12_instructions_145 rfl (lv_at hl 1 rfl) ?_
    obtain ⟨h28, hf⟩ := hs_ck hf
    obtain ⟨h29, hf⟩ := hs_ck hf
    refine hs_iald hx hb hK.1 hP h28 h29 dX12_instructions_146 ?_
    refine lv_icmp_ge (tgt := 154) hx hb dX12_instructions_147 (by decide) (fun hc => ?_) (fun hc => ?_)
    · replace hf := hs_t hf hc
      exact wX12_instructions_j154 hX hrec hex0 hex1 hf hP hS (lv_sub hl [0, 1, 2, 3, 4, 5, 6, 8] rfl)
    · replace hf := hs_f hf hc
      refine lv_iconst (v := 1) hx hb dX12_instructions_150 (by decide) ?_
      refine lv_goto (tgt := 155) hx hb dX12_instructions_151 (by decide) ?_
      exact wX12_instructions_j155 hX hrec hex0 hex1 hf hP hS (lv_sub hl [0, 1, 2, 3, 4, 5, 6, 8] rfl)

set_option maxHeartbeats 4000000 in
set_option maxRecDepth 100000 in
theorem wX12_instructions_j118 {p : Program} {l : Launch} {e : Env} {s : State} {m : MethodId} {args : Array Value} {below : List Frame} {meth : Method} {c : Code} {B : Nat} {D : va_G} {E : Nat → ClassId} (hX : hs_cx cX12_instructions (some .int) 9 RX12 wcX12_instructions p s m args meth c D E) {Q : State → Prop} {o : Nat × Int32 × hs_S} {rec : Int32 → hs_S → Option (Nat × Int32 × hs_S)} {v0 : Nat} {v1 : Int32} {v2 : Int32} {v3 : Int32} {v4 : Int32} {v5 : Int32} {v6 : Int32} {v7 : Int32} {s0 : Int32}  (hrec : ∀ (y0 : Int32) (g : hs_S) (H : Heap) (locs : List Loc) (ls : Array Slot), rec y0 g = some o → hs_P B D E g H → hs_Sx B s.heap H locs → lv_has ls 9 [(0, .ref (B + v0)), (1, .int v1), (2, .int v2), (3, .int v3), (4, .int y0)] → W p l e rmX12_instructions s m args below meth c H locs 0 0 Q (F0 m 39 ls [])) (hex0 : o.1 = 0 → ∀ (H : Heap) (locs : List Loc) (ls : Array Slot), hs_P B D E (o.2.2) H → hs_Sx B s.heap H locs → lv_has ls 9 [] → W p l e rmX12_instructions s m args below meth c H locs 0 0 Q (F0 m 271 ls [])) (hex1 : o.1 = 1 → ∀ (H : Heap) (locs : List Loc) (ls : Array Slot), hs_P B D E (o.2.2) H → hs_Sx B s.heap H locs → lv_has ls 9 [(0, .ref (B + v0)), (1, .int v1), (4, .int (o.2.1))] → W p l e rmX12_instructions s m args below meth c H locs 0 0 Q (F0 m 236 ls [])) {g : hs_S} {H : Heap} {locs : List Loc} {ls : Array Slot} (hf : jX12_instructions_118 rec v0 v1 v2 v3 v4 v5 v6 v7 s0 g = some o) (hP : hs_P B D E g H) (hS : hs_Sx B s.heap H locs) (hl : lv_has ls 9 [(0, .ref (B + v0)), (1, .int v1), (2, .int v2), (3, .int v3), (4, .int v4), (5, .int v5), (6, .int v6), (7, .int v7)]) : W p l e rmX12_instructions s m args below meth c H locs 0 0 Q (F0 m 118 ls [.int s0]) := by
  obtain ⟨hx, hb, hr, hml, hown, hts, hlocks, hK⟩ := id hX
  unfold jX12_instructions_118 at hf
  refine lv_istore (lv' := [(8, .int s0), (0, .ref (B + v0)), (1, .int v1), (2, .int v2), (3, .int v3), (4, .int v4), (5, .int v5), (6, .int v6), (7, .int v7)]) hx hb dX12_instructions_118 hl (by decide) rfl (fun ls hl => ?_)
  refine lv_iload hx hb dX12_instructions_120 (lv_at hl 7 rfl) ?_
  refine lv_bipush (v := 21) hx hb dX12_instructions_122 (by decide) ?_
  refine lv_icmp_eq (tgt := 134) hx hb dX12_instructions_124 (by decide) (fun hc => ?_) (fun hc => ?_)
  · replace hf := hs_t hf hc
    exact wX12_instructions_j134 hX hrec hex0 hex1 hf hP hS (lv_sub hl [1, 2, 3, 4, 5, 6, 7, 8, 0] rfl)
  · replace hf := hs_f hf hc
    refine lv_iload hx hb dX12_instructions_127 (lv_at hl 7 rfl) ?_
    refine lv_bipush (v := 54) hx hb dX12_instructions_129 (by decide) ?_
    refine lv_icmp_ne (tgt := 157) hx hb dX12_instructions_131 (by decide) (fun hc => ?_) (fun hc => ?_)
    · replace hf := hs_f hf hc
      exact wX12_instructions_j157 hX hrec hex0 hex1 hf hP hS (lv_sub hl [1, 2, 3, 4, 5, 6, 7, 8, 0] rfl)
    · replace hf := hs_t hf hc
      exact wX12_instructions_j134 hX hrec hex0 hex1 hf hP hS (lv_sub hl [1, 2, 3, 4, 5, 6, 7, 8, 0] rfl)

set_option maxHeartbeats 4000000 in
set_option maxRecDepth 100000 in
theorem wX12_instructions_j117 {p : Program} {l : Launch} {e : Env} {s : State} {m : MethodId} {args : Array Value} {below : List Frame} {meth : Method} {c : Code} {B : Nat} {D : va_G} {E : Nat → ClassId} (hX : hs_cx cX12_instructions (some .int) 9 RX12 wcX12_instructions p s m args meth c D E) {Q : State → Prop} {o : Nat × Int32 × hs_S} {rec : Int32 → hs_S → Option (Nat × Int32 × hs_S)} {v0 : Nat} {v1 : Int32} {v2 : Int32} {v3 : Int32} {v4 : Int32} {v5 : Int32} {v6 : Int32} {v7 : Int32}  (hrec : ∀ (y0 : Int32) (g : hs_S) (H : Heap) (locs : List Loc) (ls : Array Slot), rec y0 g = some o → hs_P B D E g H → hs_Sx B s.heap H locs → lv_has ls 9 [(0, .ref (B + v0)), (1, .int v1), (2, .int v2), (3, .int v3), (4, .int y0)] → W p l e rmX12_instructions s m args below meth c H locs 0 0 Q (F0 m 39 ls [])) (hex0 : o.1 = 0 → ∀ (H : Heap) (locs : List Loc) (ls : Array Slot), hs_P B D E (o.2.2) H → hs_Sx B s.heap H locs → lv_has ls 9 [] → W p l e rmX12_instructions s m args below meth c H locs 0 0 Q (F0 m 271 ls [])) (hex1 : o.1 = 1 → ∀ (H : Heap) (locs : List Loc) (ls : Array Slot), hs_P B D E (o.2.2) H → hs_Sx B s.heap H locs → lv_has ls 9 [(0, .ref (B + v0)), (1, .int v1), (4, .int (o.2.1))] → W p l e rmX12_instructions s m args below meth c H locs 0 0 Q (F0 m 236 ls [])) {g : hs_S} {H : Heap} {locs : List Loc} {ls : Array Slot} (hf : jX12_instructions_117 rec v0 v1 v2 v3 v4 v5 v6 v7 g = some o) (hP : hs_P B D E g H) (hS : hs_Sx B s.heap H locs) (hl : lv_has ls 9 [(0, .ref (B + v0)), (1, .int v1), (2, .int v2), (3, .int v3), (4, .int v4), (5, .int v5), (6, .int v6), (7, .int v7)]) : W p l e rmX12_instructions s m args below meth c H locs 0 0 Q (F0 m 117 ls []) := by
  obtain ⟨hx, hb, hr, hml, hown, hts, hlocks, hK⟩ := id hX
  unfold jX12_instructions_117 at hf
  refine lv_iconst (v := 0) hx hb dX12_instructions_117 (by decide) ?_
  exact wX12_instructions_j118 hX hrec hex0 hex1 hf hP hS (lv_sub hl [0, 1, 2, 3, 4, 5, 6, 7] rfl)

set_option maxHeartbeats 4000000 in
set_option maxRecDepth 100000 in
theorem wX12_instructions_j89 {p : Program} {l : Launch} {e : Env} {s : State} {m : MethodId} {args : Array Value} {below : List Frame} {meth : Method} {c : Code} {B : Nat} {D : va_G} {E : Nat → ClassId} (hX : hs_cx cX12_instructions (some .int) 9 RX12 wcX12_instructions p s m args meth c D E) {Q : State → Prop} {o : Nat × Int32 × hs_S} {rec : Int32 → hs_S → Option (Nat × Int32 × hs_S)} {v0 : Nat} {v1 : Int32} {v2 : Int32} {v3 : Int32} {v4 : Int32} {v5 : Int32} {v6 : Int32} {s0 : Int32}  (hrec : ∀ (y0 : Int32) (g : hs_S) (H : Heap) (locs : List Loc) (ls : Array Slot), rec y0 g = some o → hs_P B D E g H → hs_Sx B s.heap H locs → lv_has ls 9 [(0, .ref (B + v0)), (1, .int v1), (2, .int v2), (3, .int v3), (4, .int y0)] → W p l e rmX12_instructions s m args below meth c H locs 0 0 Q (F0 m 39 ls [])) (hex0 : o.1 = 0 → ∀ (H : Heap) (locs : List Loc) (ls : Array Slot), hs_P B D E (o.2.2) H → hs_Sx B s.heap H locs → lv_has ls 9 [] → W p l e rmX12_instructions s m args below meth c H locs 0 0 Q (F0 m 271 ls [])) (hex1 : o.1 = 1 → ∀ (H : Heap) (locs : List Loc) (ls : Array Slot), hs_P B D E (o.2.2) H → hs_Sx B s.heap H locs → lv_has ls 9 [(0, .ref (B + v0)), (1, .int v1), (4, .int (o.2.1))] → W p l e rmX12_instructions s m args below meth c H locs 0 0 Q (F0 m 236 ls [])) {g : hs_S} {H : Heap} {locs : List Loc} {ls : Array Slot} (hf : jX12_instructions_89 rec v0 v1 v2 v3 v4 v5 v6 s0 g = some o) (hP : hs_P B D E g H) (hS : hs_Sx B s.heap H locs) (hl : lv_has ls 9 [(0, .ref (B + v0)), (1, .int v1), (2, .int v2), (3, .int v3), (4, .int v4), (5, .int v5), (6, .int v6)]) : W p l e rmX12_instructions s m args below meth c H locs 0 0 Q (F0 m 89 ls [.int s0]) := by
  obtain ⟨hx, hb, hr, hml, hown, hts, hlocks, hK⟩ := id hX
  unfold jX12_instructions_89 at hf
  refine lv_istore (lv' := [(7, .int s0), (0, .ref (B + v0)), (1, .int v1), (2, .int v2), (3, .int v3), (4, .int v4), (5, .int v5), (6, .int v6)]) hx hb dX12_instructions_89 hl (by decide) rfl (fun ls hl => ?_)
  refine lv_iload hx hb dX12_instructions_91 (lv_at hl 0 rfl) ?_
  refine lv_if_eq (tgt := 117) hx hb dX12_instructions_93 (by decide) (fun hc => ?_) (fun hc => ?_)
  · replace hf := hs_t hf hc
    exact wX12_instructions_j117 hX hrec hex0 hex1 hf hP hS (lv_sub hl [1, 2, 3, 4, 5, 6, 7, 0] rfl)
  · replace hf := hs_f hf hc
    refine lv_iload hx hb dX12_instructions_96 (lv_at hl 7 rfl) ?_
    obtain ⟨r31, g30, h32, hf⟩ := hs_bd_some hf
    refine hs_calli (va_runS (As := [.int v6]) (rest := []) ⟨hx, hb, hml, hown, hts⟩ (ctX12_size l B D E v6 g _ h32) (va_cwS 1 hts (hs_gS (fun _ h => List.mem_cons_of_mem _ h) wq423 wq424 wq5 wq425) rfl rfl rfl (by decide +kernel) ⟨Nat.le_of_ble_eq_true rfl, Nat.le_of_ble_eq_true rfl⟩) (hs_pre hP hK) rfl rfl hl.1 rfl (lv_room (Nat.le_of_ble_eq_true rfl)) dX12_instructions_98 ⟨(Nat.le_of_ble_eq_true rfl), (Nat.le_of_ble_eq_true rfl)⟩) hS (fun H locs hP hS => ?_)
    refine lv_iconst (v := 1) hx hb dX12_instructions_101 (by decide) ?_
    refine lv_icmp_le (tgt := 117) hx hb dX12_instructions_102 (by decide) (fun hc => ?_) (fun hc => ?_)
    · replace hf := hs_t hf hc
      exact wX12_instructions_j117 hX hrec hex0 hex1 hf hP hS (lv_sub hl [1, 2, 3, 4, 5, 6, 7, 0] rfl)
    · replace hf := hs_f hf hc
      refine lv_aload_n hx hb dX12_instructions_105 rfl (lv_at hl 1 rfl) ?_
      obtain ⟨h33, hf⟩ := hs_ck hf
      obtain ⟨h34, hf⟩ := hs_ck hf
      refine hs_getr (C := RX12) (T := TX12) (N := 48) hx hb hts (fun w h => List.mem_cons_of_mem _ (inlX12 w h)) hown hK.1 hP h33 (by decide) rfl 21 (by decide) (hts _ (List.mem_cons_of_mem _ wq140)) (fun _ h => h) rfl h34 dX12_instructions_106 ?_
      refine lv_iload hx hb dX12_instructions_109 (lv_at hl 6 rfl) ?_
      refine lv_iconst (v := 1) hx hb dX12_instructions_111 (by decide) ?_
      refine lv_iadd hx hb dX12_instructions_112 ?_
      obtain ⟨h35, hf⟩ := hs_ck hf
      obtain ⟨h36, hf⟩ := hs_ck hf
      refine hs_iald hx hb hK.1 hP h35 h36 dX12_instructions_113 ?_
      refine lv_goto (tgt := 118) hx hb dX12_instructions_114 (by decide) ?_
      exact wX12_instructions_j118 hX hrec hex0 hex1 hf hP hS (lv_sub hl [1, 2, 3, 4, 5, 6, 7, 0] rfl)

set_option maxHeartbeats 4000000 in
set_option maxRecDepth 100000 in
theorem wX12_instructions_j88 {p : Program} {l : Launch} {e : Env} {s : State} {m : MethodId} {args : Array Value} {below : List Frame} {meth : Method} {c : Code} {B : Nat} {D : va_G} {E : Nat → ClassId} (hX : hs_cx cX12_instructions (some .int) 9 RX12 wcX12_instructions p s m args meth c D E) {Q : State → Prop} {o : Nat × Int32 × hs_S} {rec : Int32 → hs_S → Option (Nat × Int32 × hs_S)} {v0 : Nat} {v1 : Int32} {v2 : Int32} {v3 : Int32} {v4 : Int32} {v5 : Int32} {v6 : Int32}  (hrec : ∀ (y0 : Int32) (g : hs_S) (H : Heap) (locs : List Loc) (ls : Array Slot), rec y0 g = some o → hs_P B D E g H → hs_Sx B s.heap H locs → lv_has ls 9 [(0, .ref (B + v0)), (1, .int v1), (2, .int v2), (3, .int v3), (4, .int y0)] → W p l e rmX12_instructions s m args below meth c H locs 0 0 Q (F0 m 39 ls [])) (hex0 : o.1 = 0 → ∀ (H : Heap) (locs : List Loc) (ls : Array Slot), hs_P B D E (o.2.2) H → hs_Sx B s.heap H locs → lv_has ls 9 [] → W p l e rmX12_instructions s m args below meth c H locs 0 0 Q (F0 m 271 ls [])) (hex1 : o.1 = 1 → ∀ (H : Heap) (locs : List Loc) (ls : Array Slot), hs_P B D E (o.2.2) H → hs_Sx B s.heap H locs → lv_has ls 9 [(0, .ref (B + v0)), (1, .int v1), (4, .int (o.2.1))] → W p l e rmX12_instructions s m args below meth c H locs 0 0 Q (F0 m 236 ls [])) {g : hs_S} {H : Heap} {locs : List Loc} {ls : Array Slot} (hf : jX12_instructions_88 rec v0 v1 v2 v3 v4 v5 v6 g = some o) (hP : hs_P B D E g H) (hS : hs_Sx B s.heap H locs) (hl : lv_has ls 9 [(0, .ref (B + v0)), (1, .int v1), (2, .int v2), (3, .int v3), (4, .int v4), (5, .int v5), (6, .int v6)]) : W p l e rmX12_instructions s m args below meth c H locs 0 0 Q (F0 m 88 ls []) := by
  obtain ⟨hx, hb, hr, hml, hown, hts, hlocks, hK⟩ := id hX
  unfold jX12_instructions_88 at hf
  refine lv_iconst (v := 0) hx hb dX12_instructions_88 (by decide) ?_
  exact wX12_instructions_j89 hX hrec hex0 hex1 hf hP hS (lv_sub hl [0, 1, 2, 3, 4, 5, 6] rfl)

set_option maxHeartbeats 4000000 in
set_option maxRecDepth 100000 in
theorem wX12_instructions_39 {p : Program} {l : Launch} {e : Env} {s : State} {m : MethodId} {args : Array Value} {below : List Frame} {meth : Method} {c : Code} {B : Nat} {D : va_G} {E : Nat → ClassId} (hX : hs_cx cX12_instructions (some .int) 9 RX12 wcX12_instructions p s m args meth c D E) {Q : State → Prop} {o : Nat × Int32 × hs_S} {v0 : Nat} {v1 : Int32} {v2 : Int32} {v3 : Int32} (hex0 : o.1 = 0 → ∀ (H : Heap) (locs : List Loc) (ls : Array Slot), hs_P B D E (o.2.2) H → hs_Sx B s.heap H locs → lv_has ls 9 [] → W p l e rmX12_instructions s m args below meth c H locs 0 0 Q (F0 m 271 ls [])) (hex1 : o.1 = 1 → ∀ (H : Heap) (locs : List Loc) (ls : Array Slot), hs_P B D E (o.2.2) H → hs_Sx B s.heap H locs → lv_has ls 9 [(0, .ref (B + v0)), (1, .int v1), (4, .int (o.2.1))] → W p l e rmX12_instructions s m args below meth c H locs 0 0 Q (F0 m 236 ls [])) : ∀ (n : Nat) (v4 : Int32) (g : hs_S), lX12_instructions_39 n v0 v1 v2 v3 v4 g = some o → ∀ (H : Heap) (locs : List Loc) (ls : Array Slot), hs_P B D E g H → hs_Sx B s.heap H locs → lv_has ls 9 [(0, .ref (B + v0)), (1, .int v1), (2, .int v2), (3, .int v3), (4, .int v4)] → W p l e rmX12_instructions s m args below meth c H locs 0 0 Q (F0 m 39 ls []) := by
  obtain ⟨hx, hb, hr, hml, hown, hts, hlocks, hK⟩ := id hX
  intro n
  induction n with
  | zero =>
    intro v4 g hf
    cases hf
  | succ n ih =>
    intro v4 g hf H locs ls hP hS hl
    replace hf := (lX12_instructions_39_s n v0 v1 v2 v3 v4 g).symm.trans hf
    refine lv_iload hx hb dX12_instructions_39 (lv_at hl 4 rfl) ?_
    refine lv_iload_n hx hb dX12_instructions_41 rfl (lv_at hl 3 rfl) ?_
    refine lv_icmp_ge (tgt := 271) hx hb dX12_instructions_42 (by decide) (fun hc => ?_) (fun hc => ?_)
    · replace hf := hs_t hf hc
      obtain rfl := Option.some.inj hf
      exact hex0 rfl _ _ _ hP hS (lv_sub hl [] rfl)
    · replace hf := hs_f hf hc
      refine lv_sipush (v := 2001) hx hb dX12_instructions_45 (by decide) ?_
      refine lv_iload_n hx hb dX12_instructions_48 rfl (lv_at hl 1 rfl) ?_
      refine lv_imul hx hb dX12_instructions_49 ?_
      refine lv_iload hx hb dX12_instructions_50 (lv_at hl 4 rfl) ?_
      refine lv_iadd hx hb dX12_instructions_52 ?_
      refine lv_istore (lv' := [(5, .int (((2001 : Int32) * v1) + v4)), (0, .ref (B + v0)), (1, .int v1), (2, .int v2), (3, .int v3), (4, .int v4)]) hx hb dX12_instructions_53 hl (by decide) rfl (fun ls hl => ?_)
      refine lv_aload_n hx hb dX12_instructions_55 rfl (lv_at hl 1 rfl) ?_
      obtain ⟨h12, hf⟩ := hs_ck hf
      obtain ⟨h13, hf⟩ := hs_ck hf
      refine hs_getr (C := RX12) (T := TX12) (N := 48) hx hb hts (fun w h => List.mem_cons_of_mem _ (inlX12 w h)) hown hK.1 hP h12 (by decide) rfl 21 (by decide) (hts _ (List.mem_cons_of_mem _ wq140)) (fun _ h => h) rfl h13 dX12_instructions_56 ?_
      refine lv_iload hx hb dX12_instructions_59 (lv_at hl 0 rfl) ?_
      obtain ⟨h14, hf⟩ := hs_ck hf
      obtain ⟨h15, hf⟩ := hs_ck hf
      refine hs_iald hx hb hK.1 hP h14 h15 dX12_instructions_61 ?_
      refine lv_istore (lv' := [(6, .int (hs_I g ((hs_R g v0 21) - 1) (((2001 : Int32) * v1) + v4).toNatClampNeg)), (5, .int (((2001 : Int32) * v1) + v4)), (0, .ref (B + v0)), (1, .int v1), (2, .int v2), (3, .int v3), (4, .int v4)]) hx hb dX12_instructions_62 hl (by decide) rfl (fun ls hl => ?_)
      refine lv_iload hx hb dX12_instructions_64 (lv_at hl 0 rfl) ?_
      obtain ⟨r17, g16, h18, hf⟩ := hs_bd_some hf
      refine hs_calli (va_runS (As := [.int (hs_I g ((hs_R g v0 21) - 1) (((2001 : Int32) * v1) + v4).toNatClampNeg)]) (rest := []) ⟨hx, hb, hml, hown, hts⟩ (ctX12_isKind l B D E (hs_I g ((hs_R g v0 21) - 1) (((2001 : Int32) * v1) + v4).toNatClampNeg) g _ h18) (va_cwS 1 hts (hs_gS (fun _ h => List.mem_cons_of_mem _ h) wq420 wq421 wq5 wq422) rfl rfl rfl (by decide +kernel) ⟨Nat.le_of_ble_eq_true rfl, Nat.le_of_ble_eq_true rfl⟩) (hs_pre hP hK) rfl rfl hl.1 rfl (lv_room (Nat.le_of_ble_eq_true rfl)) dX12_instructions_66 ⟨(Nat.le_of_ble_eq_true rfl), (Nat.le_of_ble_eq_true rfl)⟩) hS (fun H locs hP hS => ?_)
      refine lv_if_eq (tgt := 88) hx hb dX12_instructions_69 (by decide) (fun hc => ?_) (fun hc => ?_)
      · replace hf := hs_t hf hc
        exact wX12_instructions_j88 hX (fun z0 g H locs ls hf hP hS hl => ih z0 g hf H locs ls hP hS hl) hex0 hex1 hf hP hS (lv_sub hl [2, 3, 4, 5, 6, 1, 0] rfl)
      · replace hf := hs_f hf hc
        refine lv_iload hx hb dX12_instructions_72 (lv_at hl 6 rfl) ?_
        refine lv_iload hx hb dX12_instructions_74 (lv_at hl 0 rfl) ?_
        obtain ⟨r38, g37, h39, hf⟩ := hs_bd_some hf
        refine hs_calli (va_runS (As := [.int (hs_I g ((hs_R g v0 21) - 1) (((2001 : Int32) * v1) + v4).toNatClampNeg)]) (rest := [.int v4]) ⟨hx, hb, hml, hown, hts⟩ (ctX12_size l B D E (hs_I g ((hs_R g v0 21) - 1) (((2001 : Int32) * v1) + v4).toNatClampNeg) g16 _ h39) (va_cwS 1 hts (hs_gS (fun _ h => List.mem_cons_of_mem _ h) wq423 wq424 wq5 wq425) rfl rfl rfl (by decide +kernel) ⟨Nat.le_of_ble_eq_true rfl, Nat.le_of_ble_eq_true rfl⟩) (hs_pre hP hK) rfl rfl hl.1 rfl (lv_room (Nat.le_of_ble_eq_true rfl)) dX12_instructions_76 ⟨(Nat.le_of_ble_eq_true rfl), (Nat.le_of_ble_eq_true rfl)⟩) hS (fun H locs hP hS => ?_)
        refine lv_iadd hx hb dX12_instructions_79 ?_
        refine lv_iload_n hx hb dX12_instructions_80 rfl (lv_at hl 5 rfl) ?_
        refine lv_icmp_gt (tgt := 88) hx hb dX12_instructions_81 (by decide) (fun hc => ?_) (fun hc => ?_)
        · replace hf := hs_t hf hc
          exact wX12_instructions_j88 hX (fun z0 g H locs ls hf hP hS hl => ih z0 g hf H locs ls hP hS hl) hex0 hex1 hf hP hS (lv_sub hl [2, 3, 4, 5, 6, 1, 0] rfl)
        · replace hf := hs_f hf hc
          refine lv_iconst (v := 1) hx hb dX12_instructions_84 (by decide) ?_
          refine lv_goto (tgt := 89) hx hb dX12_instructions_85 (by decide) ?_
          exact wX12_instructions_j89 hX (fun z0 g H locs ls hf hP hS hl => ih z0 g hf H locs ls hP hS hl) hex0 hex1 hf hP hS (lv_sub hl [2, 3, 4, 5, 6, 1, 0] rfl)

set_option maxHeartbeats 4000000 in
set_option maxRecDepth 100000 in
theorem ctX12_instructions (l : Launch) (B : Nat) (D : va_G) (E : Nat → ClassId) (v0 : Nat) (v1 : Int32) (v2 : Int32) (g : hs_S) (o : Int32 × hs_S) (hf : fX12_instructions v0 v1 v2 g = some o) : Met l yX12_instructions wcX12_instructions rmX12_instructions (hs_Pc B D E g [.ref (B + v0), .int v1, .int v2]) (hs_Qi B D E o) (0) (0) (hs_F B) := by
  refine Met.ofW (cc := cX12_instructions) (maxL := 9) (ret := (some .int)) (by decide) rfl ?_
  intro p e s m args below meth c s₁ Bd hml hv
  obtain ⟨rfl, hP, hK⟩ := hv
  have hx := Bd.exec
  have hb := Bd.bytes
  have hr := Bd.returns
  have hts := atoms_spec (ws := wcX12_instructions) Bd.pre
  have hown : s.vm.findClass RX12 = some m.cls := findClass_of_methodNamed Bd.named
  have hlocks := Bd.notSynchronized
  have hS : hs_Sx B s.heap s.heap [] := va_S.rf
  have hX : hs_cx cX12_instructions (some .int) 9 RX12 wcX12_instructions p s m (List.toArray [.ref (B + v0), .int v1, .int v2]) meth c D E := ⟨hx, hb, hr, hml, hown, hts, hlocks, hK⟩
  have hl := lv_entry ([.ref (B + v0), .int v1, .int v2]) (n := 9) (Nat.le_of_ble_eq_true rfl)
  rw [lg_entry_eq]
  generalize (lg_sl ([.ref (B + v0), .int v1, .int v2]) ++ List.replicate (9 - (lg_sl ([.ref (B + v0), .int v1, .int v2])).length) Slot.unset).toArray = ls at hl ⊢
  have hl : lv_has ls 9 [(0, .ref (B + v0)), (1, .int v1), (2, .int v2)] := hl
  have hP : hs_P B D E g s.heap := hP
  unfold fX12_instructions at hf
  refine lv_aload_n hx hb dX12_instructions_0 rfl (lv_at hl 0 rfl) ?_
  obtain ⟨h1, hf⟩ := hs_ck hf
  obtain ⟨h2, hf⟩ := hs_ck hf
  refine hs_getr (C := RX12) (T := TX12) (N := 48) hx hb hts (fun w h => List.mem_cons_of_mem _ (inlX12 w h)) hown hK.1 hP h1 (by decide) rfl 17 (by decide) (hts _ (List.mem_cons_of_mem _ wq136)) (fun _ h => h) rfl h2 dX12_instructions_1 ?_
  refine lv_iload_n hx hb dX12_instructions_4 rfl (lv_at hl 1 rfl) ?_
  obtain ⟨h3, hf⟩ := hs_ck hf
  obtain ⟨h4, hf⟩ := hs_ck hf
  refine hs_iald hx hb hK.1 hP h3 h4 dX12_instructions_5 ?_
  refine lv_istore_n (lv' := [(3, .int (hs_I g ((hs_R g v0 17) - 1) v1.toNatClampNeg)), (0, .ref (B + v0)), (1, .int v1), (2, .int v2)]) hx hb dX12_instructions_6 rfl hl (by decide) rfl (fun ls hl => ?_)
  refine lv_iconst (v := 0) hx hb dX12_instructions_7 (by decide) ?_
  refine lv_istore (lv' := [(4, .int (0 : Int32)), (3, .int (hs_I g ((hs_R g v0 17) - 1) v1.toNatClampNeg)), (0, .ref (B + v0)), (1, .int v1), (2, .int v2)]) hx hb dX12_instructions_8 hl (by decide) rfl (fun ls hl => ?_)
  obtain ⟨g10, h11, hf⟩ := hs_bv_some hf
  refine wX12_instructions_10 hX (fun H locs ls hP hS hl => ?_) hs_N _ _ h11 _ _ _ hP hS (lv_sub hl [2, 3, 4, 1, 0] rfl)
  refine lv_iconst (v := 0) hx hb dX12_instructions_36 (by decide) ?_
  refine lv_istore (lv' := [(4, .int (0 : Int32)), (0, .ref (B + v0)), (1, .int v1), (2, .int v2), (3, .int (hs_I g ((hs_R g v0 17) - 1) v1.toNatClampNeg))]) hx hb dX12_instructions_37 hl (by decide) rfl (fun ls hl => ?_)
  obtain ⟨k41, x40, g42, h43, hf⟩ := hs_b3_some hf
  refine wX12_instructions_39 hX (fun hlab H locs ls hP hS hl => ?_) (fun hlab H locs ls hP hS hl => ?_) hs_N _ _ h43 _ _ _ hP hS (lv_sub hl [1, 2, 3, 4, 0] rfl)
  · replace hlab : k41 = 0 := hlab
    replace hf := hs_t hf hlab
    refine lv_iconst (v := 0) hx hb dX12_instructions_271 (by decide) ?_
    exact hs_iret hx hb hr hlocks rfl hK hP hS hf dX12_instructions_272
  · replace hlab : k41 = 1 := hlab
    replace hf := hs_f hf (by rw [hlab]; decide)
    refine lv_aload_n hx hb dX12_instructions_236 rfl (lv_at hl 0 rfl) ?_
    refine lv_aload_n hx hb dX12_instructions_237 rfl (lv_at hl 0 rfl) ?_
    obtain ⟨h44, hf⟩ := hs_ck hf
    obtain ⟨h45, hf⟩ := hs_ck hf
    refine hs_getr (C := RX12) (T := TX12) (N := 48) hx hb hts (fun w h => List.mem_cons_of_mem _ (inlX12 w h)) hown hK.1 hP h44 (by decide) rfl 18 (by decide) (hts _ (List.mem_cons_of_mem _ wq137)) (fun _ h => h) rfl h45 dX12_instructions_238 ?_
    refine lv_iload_n hx hb dX12_instructions_241 rfl (lv_at hl 1 rfl) ?_
    obtain ⟨h46, hf⟩ := hs_ck hf
    obtain ⟨h47, hf⟩ := hs_ck hf
    refine hs_iald hx hb hK.1 hP h46 h47 dX12_instructions_242 ?_
    refine lv_iload hx hb dX12_instructions_243 (lv_at hl 2 rfl) ?_
    refine lv_iadd hx hb dX12_instructions_245 ?_
    obtain ⟨r49, g48, h50, hf⟩ := hs_bd_some hf
    refine hs_calli (va_runV (As := [.int ((hs_I g42 ((hs_R g42 v0 18) - 1) v1.toNatClampNeg) + x40)]) (rest := []) ⟨hx, hb, hml, hown, hts⟩ (ctX12_wrong l B D E v0 ((hs_I g42 ((hs_R g42 v0 18) - 1) v1.toNatClampNeg) + x40) g42 _ h50) (cwV 1 hts (hs_gV (fun _ h => List.mem_cons_of_mem _ h) wq404 wq405 wq406 wq5 wq407) rfl rfl rfl (by decide +kernel) ⟨Nat.le_of_ble_eq_true rfl, Nat.le_of_ble_eq_true rfl⟩) (hs_preV (r := (RX12, TX12, 48)) hP hK h44 (by decide) rfl) rfl rfl hl.1 rfl (lv_room (Nat.le_of_ble_eq_true rfl)) dX12_instructions_246 ⟨(Nat.le_of_ble_eq_true rfl), (Nat.le_of_ble_eq_true rfl)⟩) hS (fun H locs hP hS => ?_)
    exact hs_iret hx hb hr hlocks rfl hK hP hS hf dX12_instructions_249

theorem dX12_isBegin_0 : decode cX12_isBegin 0 = .ok (.iload_n 2, 1) := by decide +kernel
theorem dX12_isBegin_1 : decode cX12_isBegin 1 = .ok (.ifCond .lt 32, 3) := by decide +kernel
theorem dX12_isBegin_4 : decode cX12_isBegin 4 = .ok (.iload_n 2, 1) := by decide +kernel
theorem dX12_isBegin_5 : decode cX12_isBegin 5 = .ok (.aload_n 0, 1) := by decide +kernel
theorem dX12_isBegin_6 : decode cX12_isBegin 6 = .ok (.getfield 54, 3) := by decide +kernel
theorem dX12_isBegin_9 : decode cX12_isBegin 9 = .ok (.iload_n 1, 1) := by decide +kernel
theorem dX12_isBegin_10 : decode cX12_isBegin 10 = .ok (.iaload, 1) := by decide +kernel
theorem dX12_isBegin_11 : decode cX12_isBegin 11 = .ok (.if_icmp .ge 22, 3) := by decide +kernel
theorem dX12_isBegin_14 : decode cX12_isBegin 14 = .ok (.aload_n 0, 1) := by decide +kernel
theorem dX12_isBegin_15 : decode cX12_isBegin 15 = .ok (.getfield 35, 3) := by decide +kernel
theorem dX12_isBegin_18 : decode cX12_isBegin 18 = .ok (.sipush 2001, 3) := by decide +kernel
theorem dX12_isBegin_21 : decode cX12_isBegin 21 = .ok (.iload_n 1, 1) := by decide +kernel
theorem dX12_isBegin_22 : decode cX12_isBegin 22 = .ok (.imul, 1) := by decide +kernel
theorem dX12_isBegin_23 : decode cX12_isBegin 23 = .ok (.iload_n 2, 1) := by decide +kernel
theorem dX12_isBegin_24 : decode cX12_isBegin 24 = .ok (.iadd, 1) := by decide +kernel
theorem dX12_isBegin_25 : decode cX12_isBegin 25 = .ok (.baload, 1) := by decide +kernel
theorem dX12_isBegin_26 : decode cX12_isBegin 26 = .ok (.ifCond .eq 7, 3) := by decide +kernel
theorem dX12_isBegin_29 : decode cX12_isBegin 29 = .ok (.iconst 1, 1) := by decide +kernel
theorem dX12_isBegin_30 : decode cX12_isBegin 30 = .ok (.goto 4, 3) := by decide +kernel
theorem dX12_isBegin_33 : decode cX12_isBegin 33 = .ok (.iconst 0, 1) := by decide +kernel
theorem dX12_isBegin_34 : decode cX12_isBegin 34 = .ok (.ireturn, 1) := by decide +kernel
abbrev wcX12_isBegin : List Cond := .code yX12_isBegin cX12_isBegin 3 (some .boolean) :: wsL_law
def fX12_isBegin (v0 : Nat) (v1 : Int32) (v2 : Int32) (g : hs_S) : Option (Int32 × hs_S) :=
  if v2 < 0 then (
    some ((0 : Int32), g)
  ) else (
    if hs_kd g v0 = 10 then
    if ¬ (hs_R g v0 17) = 0 then
    if hs_kd g ((hs_R g v0 17) - 1) = 100 then
    if hs_in v1 (hs_ln g ((hs_R g v0 17) - 1)) = true then
    if (hs_I g ((hs_R g v0 17) - 1) v1.toNatClampNeg) ≤ v2 then (
      some ((0 : Int32), g)
    ) else (
      if ¬ (hs_R g v0 11) = 0 then
      if hs_kd g ((hs_R g v0 11) - 1) = 101 then
      if hs_in (((2001 : Int32) * v1) + v2) (hs_ln g ((hs_R g v0 11) - 1)) = true then
      if (hs_I g ((hs_R g v0 11) - 1) (((2001 : Int32) * v1) + v2).toNatClampNeg) = 0 then (
        some ((0 : Int32), g)
      ) else (
        some ((1 : Int32), g)
      )
      else none else none else none
    )
    else none else none else none else none
  )
abbrev rmX12_isBegin : Room := { frames := 0, cells := 0, slots := 0, locals := 0 }
set_option maxHeartbeats 4000000 in
set_option maxRecDepth 100000 in
theorem ctX12_isBegin (l : Launch) (B : Nat) (D : va_G) (E : Nat → ClassId) (v0 : Nat) (v1 : Int32) (v2 : Int32) (g : hs_S) (o : Int32 × hs_S) (hf : fX12_isBegin v0 v1 v2 g = some o) : Met l yX12_isBegin wcX12_isBegin rmX12_isBegin (hs_Pc B D E g [.ref (B + v0), .int v1, .int v2]) (hs_Qi B D E o) (0) (0) (hs_F B) := by
  refine Met.ofW (cc := cX12_isBegin) (maxL := 3) (ret := (some .boolean)) (by decide) rfl ?_
  intro p e s m args below meth c s₁ Bd hml hv
  obtain ⟨rfl, hP, hK⟩ := hv
  have hx := Bd.exec
  have hb := Bd.bytes
  have hr := Bd.returns
  have hts := atoms_spec (ws := wcX12_isBegin) Bd.pre
  have hown : s.vm.findClass RX12 = some m.cls := findClass_of_methodNamed Bd.named
  have hlocks := Bd.notSynchronized
  have hS : hs_Sx B s.heap s.heap [] := va_S.rf
  have hX : hs_cx cX12_isBegin (some .boolean) 3 RX12 wcX12_isBegin p s m (List.toArray [.ref (B + v0), .int v1, .int v2]) meth c D E := ⟨hx, hb, hr, hml, hown, hts, hlocks, hK⟩
  have hl := lv_entry ([.ref (B + v0), .int v1, .int v2]) (n := 3) (Nat.le_of_ble_eq_true rfl)
  rw [lg_entry_eq]
  generalize (lg_sl ([.ref (B + v0), .int v1, .int v2]) ++ List.replicate (3 - (lg_sl ([.ref (B + v0), .int v1, .int v2])).length) Slot.unset).toArray = ls at hl ⊢
  have hl : lv_has ls 3 [(0, .ref (B + v0)), (1, .int v1), (2, .int v2)] := hl
  have hP : hs_P B D E g s.heap := hP
  unfold fX12_isBegin at hf
  refine lv_iload_n hx hb dX12_isBegin_0 rfl (lv_at hl 2 rfl) ?_
  refine lv_if_lt (tgt := 33) hx hb dX12_isBegin_1 (by decide) (fun hc => ?_) (fun hc => ?_)
  · replace hf := hs_t hf hc
    refine lv_iconst (v := 0) hx hb dX12_isBegin_33 (by decide) ?_
    exact hs_iret hx hb hr hlocks (hs_01_nar (rfl)) hK hP hS hf dX12_isBegin_34
  · replace hf := hs_f hf hc
    refine lv_iload_n hx hb dX12_isBegin_4 rfl (lv_at hl 2 rfl) ?_
    refine lv_aload_n hx hb dX12_isBegin_5 rfl (lv_at hl 0 rfl) ?_
    obtain ⟨h1, hf⟩ := hs_ck hf
    obtain ⟨h2, hf⟩ := hs_ck hf
    refine hs_getr (C := RX12) (T := TX12) (N := 48) hx hb hts (fun w h => List.mem_cons_of_mem _ (inlX12 w h)) hown hK.1 hP h1 (by decide) rfl 17 (by decide) (hts _ (List.mem_cons_of_mem _ wq136)) (fun _ h => h) rfl h2 dX12_isBegin_6 ?_
    refine lv_iload_n hx hb dX12_isBegin_9 rfl (lv_at hl 1 rfl) ?_
    obtain ⟨h3, hf⟩ := hs_ck hf
    obtain ⟨h4, hf⟩ := hs_ck hf
    refine hs_iald hx hb hK.1 hP h3 h4 dX12_isBegin_10 ?_
    refine lv_icmp_ge (tgt := 33) hx hb dX12_isBegin_11 (by decide) (fun hc => ?_) (fun hc => ?_)
    · replace hf := hs_t hf hc
      refine lv_iconst (v := 0) hx hb dX12_isBegin_33 (by decide) ?_
      exact hs_iret hx hb hr hlocks (hs_01_nar (rfl)) hK hP hS hf dX12_isBegin_34
    · replace hf := hs_f hf hc
      refine lv_aload_n hx hb dX12_isBegin_14 rfl (lv_at hl 0 rfl) ?_
      obtain ⟨h5, hf⟩ := hs_ck hf
      refine hs_getr (C := RX12) (T := TX12) (N := 48) hx hb hts (fun w h => List.mem_cons_of_mem _ (inlX12 w h)) hown hK.1 hP h1 (by decide) rfl 11 (by decide) (hts _ (List.mem_cons_of_mem _ wq130)) (fun _ h => h) rfl h5 dX12_isBegin_15 ?_
      refine lv_sipush (v := 2001) hx hb dX12_isBegin_18 (by decide) ?_
      refine lv_iload_n hx hb dX12_isBegin_21 rfl (lv_at hl 1 rfl) ?_
      refine lv_imul hx hb dX12_isBegin_22 ?_
      refine lv_iload_n hx hb dX12_isBegin_23 rfl (lv_at hl 2 rfl) ?_
      refine lv_iadd hx hb dX12_isBegin_24 ?_
      obtain ⟨h6, hf⟩ := hs_ck hf
      obtain ⟨h7, hf⟩ := hs_ck hf
      refine hs_zald hx hb hK.1 hP h6 h7 dX12_isBegin_25 ?_
      refine lv_if_eq (tgt := 33) hx hb dX12_isBegin_26 (by decide) (fun hc => ?_) (fun hc => ?_)
      · replace hf := hs_t hf hc
        refine lv_iconst (v := 0) hx hb dX12_isBegin_33 (by decide) ?_
        exact hs_iret hx hb hr hlocks (hs_01_nar (rfl)) hK hP hS hf dX12_isBegin_34
      · replace hf := hs_f hf hc
        refine lv_iconst (v := 1) hx hb dX12_isBegin_29 (by decide) ?_
        refine lv_goto (tgt := 34) hx hb dX12_isBegin_30 (by decide) ?_
        exact hs_iret hx hb hr hlocks (hs_01_nar (rfl)) hK hP hS hf dX12_isBegin_34

theorem dX12_isJump_0 : decode cX12_isJump 0 = .ok (.iload_n 0, 1) := by decide +kernel
theorem dX12_isJump_1 : decode cX12_isJump 1 = .ok (.sipush 153, 3) := by decide +kernel
theorem dX12_isJump_4 : decode cX12_isJump 4 = .ok (.if_icmp .lt 10, 3) := by decide +kernel
theorem dX12_isJump_7 : decode cX12_isJump 7 = .ok (.iload_n 0, 1) := by decide +kernel
theorem dX12_isJump_8 : decode cX12_isJump 8 = .ok (.sipush 158, 3) := by decide +kernel
theorem dX12_isJump_11 : decode cX12_isJump 11 = .ok (.if_icmp .le 17, 3) := by decide +kernel
theorem dX12_isJump_14 : decode cX12_isJump 14 = .ok (.iload_n 0, 1) := by decide +kernel
theorem dX12_isJump_15 : decode cX12_isJump 15 = .ok (.sipush 167, 3) := by decide +kernel
theorem dX12_isJump_18 : decode cX12_isJump 18 = .ok (.if_icmp .eq 10, 3) := by decide +kernel
theorem dX12_isJump_21 : decode cX12_isJump 21 = .ok (.iload_n 0, 1) := by decide +kernel
theorem dX12_isJump_22 : decode cX12_isJump 22 = .ok (.sipush 168, 3) := by decide +kernel
theorem dX12_isJump_25 : decode cX12_isJump 25 = .ok (.if_icmp .ne 7, 3) := by decide +kernel
theorem dX12_isJump_28 : decode cX12_isJump 28 = .ok (.iconst 1, 1) := by decide +kernel
theorem dX12_isJump_29 : decode cX12_isJump 29 = .ok (.goto 4, 3) := by decide +kernel
theorem dX12_isJump_32 : decode cX12_isJump 32 = .ok (.iconst 0, 1) := by decide +kernel
theorem dX12_isJump_33 : decode cX12_isJump 33 = .ok (.ireturn, 1) := by decide +kernel
abbrev wcX12_isJump : List Cond := .code yX12_isJump cX12_isJump 1 (some .boolean) :: wsL_law
def jX12_isJump_28  (g : hs_S) : Option (Int32 × hs_S) :=
  some ((1 : Int32), g)
def jX12_isJump_14 (v0 : Int32) (g : hs_S) : Option (Int32 × hs_S) :=
  if v0 = (167 : Int32) then (
    jX12_isJump_28 g
  ) else (
    if v0 = (168 : Int32) then (
      jX12_isJump_28 g
    ) else (
      some ((0 : Int32), g)
    )
  )
def fX12_isJump (v0 : Int32) (g : hs_S) : Option (Int32 × hs_S) :=
  if v0 < (153 : Int32) then (
    jX12_isJump_14 v0 g
  ) else (
    if v0 ≤ (158 : Int32) then (
      jX12_isJump_28 g
    ) else (
      jX12_isJump_14 v0 g
    )
  )
abbrev rmX12_isJump : Room := { frames := 0, cells := 0, slots := 0, locals := 0 }
set_option maxHeartbeats 4000000 in
set_option maxRecDepth 100000 in
theorem wX12_isJump_j28 {p : Program} {l : Launch} {e : Env} {s : State} {m : MethodId} {args : Array Value} {below : List Frame} {meth : Method} {c : Code} {B : Nat} {D : va_G} {E : Nat → ClassId} (hX : hs_cx cX12_isJump (some .boolean) 1 RX12 wcX12_isJump p s m args meth c D E) {o : Int32 × hs_S}     {g : hs_S} {H : Heap} {locs : List Loc} {ls : Array Slot} (hf : jX12_isJump_28  g = some o) (hP : hs_P B D E g H) (hS : hs_Sx B s.heap H locs) (hl : lv_has ls 1 []) : W p l e rmX12_isJump s m args below meth c H locs 0 0 (MQ below (hs_Qi B D E o) args s 0 0 (hs_F B)) (F0 m 28 ls []) := by
  obtain ⟨hx, hb, hr, hml, hown, hts, hlocks, hK⟩ := id hX
  unfold jX12_isJump_28 at hf
  refine lv_iconst (v := 1) hx hb dX12_isJump_28 (by decide) ?_
  refine lv_goto (tgt := 33) hx hb dX12_isJump_29 (by decide) ?_
  exact hs_iret hx hb hr hlocks (hs_01_nar (rfl)) hK hP hS hf dX12_isJump_33

set_option maxHeartbeats 4000000 in
set_option maxRecDepth 100000 in
theorem wX12_isJump_j14 {p : Program} {l : Launch} {e : Env} {s : State} {m : MethodId} {args : Array Value} {below : List Frame} {meth : Method} {c : Code} {B : Nat} {D : va_G} {E : Nat → ClassId} (hX : hs_cx cX12_isJump (some .boolean) 1 RX12 wcX12_isJump p s m args meth c D E) {o : Int32 × hs_S}  {v0 : Int32}   {g : hs_S} {H : Heap} {locs : List Loc} {ls : Array Slot} (hf : jX12_isJump_14 v0 g = some o) (hP : hs_P B D E g H) (hS : hs_Sx B s.heap H locs) (hl : lv_has ls 1 [(0, .int v0)]) : W p l e rmX12_isJump s m args below meth c H locs 0 0 (MQ below (hs_Qi B D E o) args s 0 0 (hs_F B)) (F0 m 14 ls []) := by
  obtain ⟨hx, hb, hr, hml, hown, hts, hlocks, hK⟩ := id hX
  unfold jX12_isJump_14 at hf
  refine lv_iload_n hx hb dX12_isJump_14 rfl (lv_at hl 0 rfl) ?_
  refine lv_sipush (v := 167) hx hb dX12_isJump_15 (by decide) ?_
  refine lv_icmp_eq (tgt := 28) hx hb dX12_isJump_18 (by decide) (fun hc => ?_) (fun hc => ?_)
  · replace hf := hs_t hf hc
    exact wX12_isJump_j28 hX hf hP hS (lv_sub hl [] rfl)
  · replace hf := hs_f hf hc
    refine lv_iload_n hx hb dX12_isJump_21 rfl (lv_at hl 0 rfl) ?_
    refine lv_sipush (v := 168) hx hb dX12_isJump_22 (by decide) ?_
    refine lv_icmp_ne (tgt := 32) hx hb dX12_isJump_25 (by decide) (fun hc => ?_) (fun hc => ?_)
    · replace hf := hs_f hf hc
      refine lv_iconst (v := 0) hx hb dX12_isJump_32 (by decide) ?_
      exact hs_iret hx hb hr hlocks (hs_01_nar (rfl)) hK hP hS hf dX12_isJump_33
    · replace hf := hs_t hf hc
      exact wX12_isJump_j28 hX hf hP hS (lv_sub hl [] rfl)

set_option maxHeartbeats 4000000 in
set_option maxRecDepth 100000 in
theorem ctX12_isJump (l : Launch) (B : Nat) (D : va_G) (E : Nat → ClassId) (v0 : Int32) (g : hs_S) (o : Int32 × hs_S) (hf : fX12_isJump v0 g = some o) : Met l yX12_isJump wcX12_isJump rmX12_isJump (hs_Pc B D E g [.int v0]) (hs_Qi B D E o) (0) (0) (hs_F B) := by
  refine Met.ofW (cc := cX12_isJump) (maxL := 1) (ret := (some .boolean)) (by decide) rfl ?_
  intro p e s m args below meth c s₁ Bd hml hv
  obtain ⟨rfl, hP, hK⟩ := hv
  have hx := Bd.exec
  have hb := Bd.bytes
  have hr := Bd.returns
  have hts := atoms_spec (ws := wcX12_isJump) Bd.pre
  have hown : s.vm.findClass RX12 = some m.cls := findClass_of_methodNamed Bd.named
  have hlocks := Bd.notSynchronized
  have hS : hs_Sx B s.heap s.heap [] := va_S.rf
  have hX : hs_cx cX12_isJump (some .boolean) 1 RX12 wcX12_isJump p s m (List.toArray [.int v0]) meth c D E := ⟨hx, hb, hr, hml, hown, hts, hlocks, hK⟩
  have hl := lv_entry ([.int v0]) (n := 1) (Nat.le_of_ble_eq_true rfl)
  rw [lg_entry_eq]
  generalize (lg_sl ([.int v0]) ++ List.replicate (1 - (lg_sl ([.int v0])).length) Slot.unset).toArray = ls at hl ⊢
  have hl : lv_has ls 1 [(0, .int v0)] := hl
  have hP : hs_P B D E g s.heap := hP
  unfold fX12_isJump at hf
  refine lv_iload_n hx hb dX12_isJump_0 rfl (lv_at hl 0 rfl) ?_
  refine lv_sipush (v := 153) hx hb dX12_isJump_1 (by decide) ?_
  refine lv_icmp_lt (tgt := 14) hx hb dX12_isJump_4 (by decide) (fun hc => ?_) (fun hc => ?_)
  · replace hf := hs_t hf hc
    exact wX12_isJump_j14 hX hf hP hS (lv_sub hl [0] rfl)
  · replace hf := hs_f hf hc
    refine lv_iload_n hx hb dX12_isJump_7 rfl (lv_at hl 0 rfl) ?_
    refine lv_sipush (v := 158) hx hb dX12_isJump_8 (by decide) ?_
    refine lv_icmp_le (tgt := 28) hx hb dX12_isJump_11 (by decide) (fun hc => ?_) (fun hc => ?_)
    · replace hf := hs_t hf hc
      exact wX12_isJump_j28 hX hf hP hS (lv_sub hl [] rfl)
    · replace hf := hs_f hf hc
      exact wX12_isJump_j14 hX hf hP hS (lv_sub hl [0] rfl)

theorem dX12_signedTwo_0 : decode cX12_signedTwo 0 = .ok (.iload_n 0, 1) := by decide +kernel
theorem dX12_signedTwo_1 : decode cX12_signedTwo 1 = .ok (.sipush 32767, 3) := by decide +kernel
theorem dX12_signedTwo_4 : decode cX12_signedTwo 4 = .ok (.if_icmp .le 10, 3) := by decide +kernel
theorem dX12_signedTwo_7 : decode cX12_signedTwo 7 = .ok (.iload_n 0, 1) := by decide +kernel
theorem dX12_signedTwo_8 : decode cX12_signedTwo 8 = .ok (.ldc 130, 2) := by decide +kernel
theorem dX12_signedTwo_10 : decode cX12_signedTwo 10 = .ok (.isub, 1) := by decide +kernel
theorem dX12_signedTwo_11 : decode cX12_signedTwo 11 = .ok (.goto 4, 3) := by decide +kernel
theorem dX12_signedTwo_14 : decode cX12_signedTwo 14 = .ok (.iload_n 0, 1) := by decide +kernel
theorem dX12_signedTwo_15 : decode cX12_signedTwo 15 = .ok (.ireturn, 1) := by decide +kernel
abbrev wcX12_signedTwo : List Cond := .code yX12_signedTwo cX12_signedTwo 1 (some .int) :: wsL_law
def fX12_signedTwo (v0 : Int32) (g : hs_S) : Option (Int32 × hs_S) :=
  if v0 ≤ (32767 : Int32) then (
    some (v0, g)
  ) else (
    some ((v0 - (65536 : Int32)), g)
  )
abbrev rmX12_signedTwo : Room := { frames := 0, cells := 0, slots := 0, locals := 0 }
set_option maxHeartbeats 4000000 in
set_option maxRecDepth 100000 in
theorem ctX12_signedTwo (l : Launch) (B : Nat) (D : va_G) (E : Nat → ClassId) (v0 : Int32) (g : hs_S) (o : Int32 × hs_S) (hf : fX12_signedTwo v0 g = some o) : Met l yX12_signedTwo wcX12_signedTwo rmX12_signedTwo (hs_Pc B D E g [.int v0]) (hs_Qi B D E o) (0) (0) (hs_F B) := by
  refine Met.ofW (cc := cX12_signedTwo) (maxL := 1) (ret := (some .int)) (by decide) rfl ?_
  intro p e s m args below meth c s₁ Bd hml hv
  obtain ⟨rfl, hP, hK⟩ := hv
  have hx := Bd.exec
  have hb := Bd.bytes
  have hr := Bd.returns
  have hts := atoms_spec (ws := wcX12_signedTwo) Bd.pre
  have hown : s.vm.findClass RX12 = some m.cls := findClass_of_methodNamed Bd.named
  have hlocks := Bd.notSynchronized
  have hS : hs_Sx B s.heap s.heap [] := va_S.rf
  have hX : hs_cx cX12_signedTwo (some .int) 1 RX12 wcX12_signedTwo p s m (List.toArray [.int v0]) meth c D E := ⟨hx, hb, hr, hml, hown, hts, hlocks, hK⟩
  have hl := lv_entry ([.int v0]) (n := 1) (Nat.le_of_ble_eq_true rfl)
  rw [lg_entry_eq]
  generalize (lg_sl ([.int v0]) ++ List.replicate (1 - (lg_sl ([.int v0])).length) Slot.unset).toArray = ls at hl ⊢
  have hl : lv_has ls 1 [(0, .int v0)] := hl
  have hP : hs_P B D E g s.heap := hP
  unfold fX12_signedTwo at hf
  refine lv_iload_n hx hb dX12_signedTwo_0 rfl (lv_at hl 0 rfl) ?_
  refine lv_sipush (v := 32767) hx hb dX12_signedTwo_1 (by decide) ?_
  refine lv_icmp_le (tgt := 14) hx hb dX12_signedTwo_4 (by decide) (fun hc => ?_) (fun hc => ?_)
  · replace hf := hs_t hf hc
    refine lv_iload_n hx hb dX12_signedTwo_14 rfl (lv_at hl 0 rfl) ?_
    exact hs_iret hx hb hr hlocks rfl hK hP hS hf dX12_signedTwo_15
  · replace hf := hs_f hf hc
    refine lv_iload_n hx hb dX12_signedTwo_7 rfl (lv_at hl 0 rfl) ?_
    refine lv_ldc (v := 65536) hx hb hown (hts _ (List.mem_cons_of_mem _ wq439)) dX12_signedTwo_8 ?_
    refine lv_isub hx hb dX12_signedTwo_10 ?_
    refine lv_goto (tgt := 15) hx hb dX12_signedTwo_11 (by decide) ?_
    exact hs_iret hx hb hr hlocks rfl hK hP hS hf dX12_signedTwo_15

theorem dX12_signed_0 : decode cX12_signed 0 = .ok (.iload_n 0, 1) := by decide +kernel
theorem dX12_signed_1 : decode cX12_signed 1 = .ok (.bipush 127, 2) := by decide +kernel
theorem dX12_signed_3 : decode cX12_signed 3 = .ok (.if_icmp .le 11, 3) := by decide +kernel
theorem dX12_signed_6 : decode cX12_signed 6 = .ok (.iload_n 0, 1) := by decide +kernel
theorem dX12_signed_7 : decode cX12_signed 7 = .ok (.sipush 256, 3) := by decide +kernel
theorem dX12_signed_10 : decode cX12_signed 10 = .ok (.isub, 1) := by decide +kernel
theorem dX12_signed_11 : decode cX12_signed 11 = .ok (.goto 4, 3) := by decide +kernel
theorem dX12_signed_14 : decode cX12_signed 14 = .ok (.iload_n 0, 1) := by decide +kernel
theorem dX12_signed_15 : decode cX12_signed 15 = .ok (.ireturn, 1) := by decide +kernel
abbrev wcX12_signed : List Cond := .code yX12_signed cX12_signed 1 (some .int) :: wsL_law
def fX12_signed (v0 : Int32) (g : hs_S) : Option (Int32 × hs_S) :=
  if v0 ≤ (127 : Int32) then (
    some (v0, g)
  ) else (
    some ((v0 - (256 : Int32)), g)
  )
abbrev rmX12_signed : Room := { frames := 0, cells := 0, slots := 0, locals := 0 }
set_option maxHeartbeats 4000000 in
set_option maxRecDepth 100000 in
theorem ctX12_signed (l : Launch) (B : Nat) (D : va_G) (E : Nat → ClassId) (v0 : Int32) (g : hs_S) (o : Int32 × hs_S) (hf : fX12_signed v0 g = some o) : Met l yX12_signed wcX12_signed rmX12_signed (hs_Pc B D E g [.int v0]) (hs_Qi B D E o) (0) (0) (hs_F B) := by
  refine Met.ofW (cc := cX12_signed) (maxL := 1) (ret := (some .int)) (by decide) rfl ?_
  intro p e s m args below meth c s₁ Bd hml hv
  obtain ⟨rfl, hP, hK⟩ := hv
  have hx := Bd.exec
  have hb := Bd.bytes
  have hr := Bd.returns
  have hts := atoms_spec (ws := wcX12_signed) Bd.pre
  have hown : s.vm.findClass RX12 = some m.cls := findClass_of_methodNamed Bd.named
  have hlocks := Bd.notSynchronized
  have hS : hs_Sx B s.heap s.heap [] := va_S.rf
  have hX : hs_cx cX12_signed (some .int) 1 RX12 wcX12_signed p s m (List.toArray [.int v0]) meth c D E := ⟨hx, hb, hr, hml, hown, hts, hlocks, hK⟩
  have hl := lv_entry ([.int v0]) (n := 1) (Nat.le_of_ble_eq_true rfl)
  rw [lg_entry_eq]
  generalize (lg_sl ([.int v0]) ++ List.replicate (1 - (lg_sl ([.int v0])).length) Slot.unset).toArray = ls at hl ⊢
  have hl : lv_has ls 1 [(0, .int v0)] := hl
  have hP : hs_P B D E g s.heap := hP
  unfold fX12_signed at hf
  refine lv_iload_n hx hb dX12_signed_0 rfl (lv_at hl 0 rfl) ?_
  refine lv_bipush (v := 127) hx hb dX12_signed_1 (by decide) ?_
  refine lv_icmp_le (tgt := 14) hx hb dX12_signed_3 (by decide) (fun hc => ?_) (fun hc => ?_)
  · replace hf := hs_t hf hc
    refine lv_iload_n hx hb dX12_signed_14 rfl (lv_at hl 0 rfl) ?_
    exact hs_iret hx hb hr hlocks rfl hK hP hS hf dX12_signed_15
  · replace hf := hs_f hf hc
    refine lv_iload_n hx hb dX12_signed_6 rfl (lv_at hl 0 rfl) ?_
    refine lv_sipush (v := 256) hx hb dX12_signed_7 (by decide) ?_
    refine lv_isub hx hb dX12_signed_10 ?_
    refine lv_goto (tgt := 15) hx hb dX12_signed_11 (by decide) ?_
    exact hs_iret hx hb hr hlocks rfl hK hP hS hf dX12_signed_15

theorem dX12_target_0 : decode cX12_target 0 = .ok (.iload_n 0, 1) := by decide +kernel
theorem dX12_target_1 : decode cX12_target 1 = .ok (.sipush 168, 3) := by decide +kernel
theorem dX12_target_4 : decode cX12_target 4 = .ok (.if_icmp .ne 18, 3) := by decide +kernel
theorem dX12_target_7 : decode cX12_target 7 = .ok (.iload_n 1, 1) := by decide +kernel
theorem dX12_target_8 : decode cX12_target 8 = .ok (.sipush 256, 3) := by decide +kernel
theorem dX12_target_11 : decode cX12_target 11 = .ok (.iload_n 2, 1) := by decide +kernel
theorem dX12_target_12 : decode cX12_target 12 = .ok (.imul, 1) := by decide +kernel
theorem dX12_target_13 : decode cX12_target 13 = .ok (.iload_n 3, 1) := by decide +kernel
theorem dX12_target_14 : decode cX12_target 14 = .ok (.iadd, 1) := by decide +kernel
theorem dX12_target_15 : decode cX12_target 15 = .ok (.invokestatic 131, 3) := by decide +kernel
theorem dX12_target_18 : decode cX12_target 18 = .ok (.iadd, 1) := by decide +kernel
theorem dX12_target_19 : decode cX12_target 19 = .ok (.goto 9, 3) := by decide +kernel
theorem dX12_target_22 : decode cX12_target 22 = .ok (.iload_n 1, 1) := by decide +kernel
theorem dX12_target_23 : decode cX12_target 23 = .ok (.iload_n 2, 1) := by decide +kernel
theorem dX12_target_24 : decode cX12_target 24 = .ok (.invokestatic 134, 3) := by decide +kernel
theorem dX12_target_27 : decode cX12_target 27 = .ok (.iadd, 1) := by decide +kernel
theorem dX12_target_28 : decode cX12_target 28 = .ok (.ireturn, 1) := by decide +kernel
abbrev wcX12_target : List Cond := .code yX12_target cX12_target 4 (some .int) :: wsL_law
def fX12_target (v0 : Int32) (v1 : Int32) (v2 : Int32) (v3 : Int32) (g : hs_S) : Option (Int32 × hs_S) :=
  if v0 = (168 : Int32) then (
    hs_bd (fX12_signedTwo (((256 : Int32) * v2) + v3) g) fun r5 g4 =>
    some ((v1 + r5), g4)
  ) else (
    hs_bd (fX12_signed v2 g) fun r2 g1 =>
    some ((v1 + r2), g1)
  )
abbrev rmX12_target : Room := { frames := 1, cells := 0, slots := 0, locals := 20 }
set_option maxHeartbeats 4000000 in
set_option maxRecDepth 100000 in
theorem ctX12_target (l : Launch) (B : Nat) (D : va_G) (E : Nat → ClassId) (v0 : Int32) (v1 : Int32) (v2 : Int32) (v3 : Int32) (g : hs_S) (o : Int32 × hs_S) (hf : fX12_target v0 v1 v2 v3 g = some o) : Met l yX12_target wcX12_target rmX12_target (hs_Pc B D E g [.int v0, .int v1, .int v2, .int v3]) (hs_Qi B D E o) (0) (0) (hs_F B) := by
  refine Met.ofW (cc := cX12_target) (maxL := 4) (ret := (some .int)) (by decide) rfl ?_
  intro p e s m args below meth c s₁ Bd hml hv
  obtain ⟨rfl, hP, hK⟩ := hv
  have hx := Bd.exec
  have hb := Bd.bytes
  have hr := Bd.returns
  have hts := atoms_spec (ws := wcX12_target) Bd.pre
  have hown : s.vm.findClass RX12 = some m.cls := findClass_of_methodNamed Bd.named
  have hlocks := Bd.notSynchronized
  have hS : hs_Sx B s.heap s.heap [] := va_S.rf
  have hX : hs_cx cX12_target (some .int) 4 RX12 wcX12_target p s m (List.toArray [.int v0, .int v1, .int v2, .int v3]) meth c D E := ⟨hx, hb, hr, hml, hown, hts, hlocks, hK⟩
  have hl := lv_entry ([.int v0, .int v1, .int v2, .int v3]) (n := 4) (Nat.le_of_ble_eq_true rfl)
  rw [lg_entry_eq]
  generalize (lg_sl ([.int v0, .int v1, .int v2, .int v3]) ++ List.replicate (4 - (lg_sl ([.int v0, .int v1, .int v2, .int v3])).length) Slot.unset).toArray = ls at hl ⊢
  have hl : lv_has ls 4 [(0, .int v0), (1, .int v1), (2, .int v2), (3, .int v3)] := hl
  have hP : hs_P B D E g s.heap := hP
  unfold fX12_target at hf
  refine lv_iload_n hx hb dX12_target_0 rfl (lv_at hl 0 rfl) ?_
  refine lv_sipush (v := 168) hx hb dX12_target_1 (by decide) ?_
  refine lv_icmp_ne (tgt := 22) hx hb dX12_target_4 (by decide) (fun hc => ?_) (fun hc => ?_)
  · replace hf := hs_f hf hc
    refine lv_iload_n hx hb dX12_target_22 rfl (lv_at hl 1 rfl) ?_
    refine lv_iload_n hx hb dX12_target_23 rfl (lv_at hl 2 rfl) ?_
    obtain ⟨r2, g1, h3, hf⟩ := hs_bd_some hf
    refine hs_calli (va_runS (As := [.int v2]) (rest := [.int v1]) ⟨hx, hb, hml, hown, hts⟩ (ctX12_signed l B D E v2 g _ h3) (va_cwS 1 hts (hs_gS (fun _ h => List.mem_cons_of_mem _ h) wq440 wq441 wq5 wq442) rfl rfl rfl (by decide +kernel) ⟨Nat.le_of_ble_eq_true rfl, Nat.le_of_ble_eq_true rfl⟩) (hs_pre hP hK) rfl rfl hl.1 rfl (lv_room (Nat.le_of_ble_eq_true rfl)) dX12_target_24 ⟨(Nat.le_of_ble_eq_true rfl), (Nat.le_of_ble_eq_true rfl)⟩) hS (fun H locs hP hS => ?_)
    refine lv_iadd hx hb dX12_target_27 ?_
    exact hs_iret hx hb hr hlocks rfl hK hP hS hf dX12_target_28
  · replace hf := hs_t hf hc
    refine lv_iload_n hx hb dX12_target_7 rfl (lv_at hl 1 rfl) ?_
    refine lv_sipush (v := 256) hx hb dX12_target_8 (by decide) ?_
    refine lv_iload_n hx hb dX12_target_11 rfl (lv_at hl 2 rfl) ?_
    refine lv_imul hx hb dX12_target_12 ?_
    refine lv_iload_n hx hb dX12_target_13 rfl (lv_at hl 3 rfl) ?_
    refine lv_iadd hx hb dX12_target_14 ?_
    obtain ⟨r5, g4, h6, hf⟩ := hs_bd_some hf
    refine hs_calli (va_runS (As := [.int (((256 : Int32) * v2) + v3)]) (rest := [.int v1]) ⟨hx, hb, hml, hown, hts⟩ (ctX12_signedTwo l B D E (((256 : Int32) * v2) + v3) g _ h6) (va_cwS 1 hts (hs_gS (fun _ h => List.mem_cons_of_mem _ h) wq436 wq437 wq5 wq438) rfl rfl rfl (by decide +kernel) ⟨Nat.le_of_ble_eq_true rfl, Nat.le_of_ble_eq_true rfl⟩) (hs_pre hP hK) rfl rfl hl.1 rfl (lv_room (Nat.le_of_ble_eq_true rfl)) dX12_target_15 ⟨(Nat.le_of_ble_eq_true rfl), (Nat.le_of_ble_eq_true rfl)⟩) hS (fun H locs hP hS => ?_)
    refine lv_iadd hx hb dX12_target_18 ?_
    refine lv_goto (tgt := 28) hx hb dX12_target_19 (by decide) ?_
    exact hs_iret hx hb hr hlocks rfl hK hP hS hf dX12_target_28

