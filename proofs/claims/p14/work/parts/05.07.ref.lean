theorem dX12_rewrite_0 : decode cX12_rewrite 0 = .ok (.aload_n 0, 1) := by decide +kernel
theorem dX12_rewrite_1 : decode cX12_rewrite 1 = .ok (.getfield 191, 3) := by decide +kernel
theorem dX12_rewrite_4 : decode cX12_rewrite 4 = .ok (.ifCond .ne 6, 3) := by decide +kernel
theorem dX12_rewrite_7 : decode cX12_rewrite 7 = .ok (.bipush (-2), 2) := by decide +kernel
theorem dX12_rewrite_9 : decode cX12_rewrite 9 = .ok (.ireturn, 1) := by decide +kernel
theorem dX12_rewrite_10 : decode cX12_rewrite 10 = .ok (.aload_n 0, 1) := by decide +kernel
theorem dX12_rewrite_11 : decode cX12_rewrite 11 = .ok (.iconst 0, 1) := by decide +kernel
theorem dX12_rewrite_12 : decode cX12_rewrite 12 = .ok (.putfield 195, 3) := by decide +kernel
theorem dX12_rewrite_15 : decode cX12_rewrite 15 = .ok (.iconst 0, 1) := by decide +kernel
theorem dX12_rewrite_16 : decode cX12_rewrite 16 = .ok (.istore_n 1, 1) := by decide +kernel
theorem dX12_rewrite_17 : decode cX12_rewrite 17 = .ok (.iconst 0, 1) := by decide +kernel
theorem dX12_rewrite_18 : decode cX12_rewrite 18 = .ok (.istore_n 2, 1) := by decide +kernel
theorem dX12_rewrite_19 : decode cX12_rewrite 19 = .ok (.iload_n 2, 1) := by decide +kernel
theorem dX12_rewrite_20 : decode cX12_rewrite 20 = .ok (.aload_n 0, 1) := by decide +kernel
theorem dX12_rewrite_21 : decode cX12_rewrite 21 = .ok (.getfield 188, 3) := by decide +kernel
theorem dX12_rewrite_24 : decode cX12_rewrite 24 = .ok (.if_icmp .ge 179, 3) := by decide +kernel
theorem dX12_rewrite_27 : decode cX12_rewrite 27 = .ok (.aload_n 0, 1) := by decide +kernel
theorem dX12_rewrite_28 : decode cX12_rewrite 28 = .ok (.iload_n 2, 1) := by decide +kernel
theorem dX12_rewrite_29 : decode cX12_rewrite 29 = .ok (.iconst 1, 1) := by decide +kernel
theorem dX12_rewrite_30 : decode cX12_rewrite 30 = .ok (.invokevirtual 231, 3) := by decide +kernel
theorem dX12_rewrite_33 : decode cX12_rewrite 33 = .ok (.istore_n 3, 1) := by decide +kernel
theorem dX12_rewrite_34 : decode cX12_rewrite 34 = .ok (.iload_n 3, 1) := by decide +kernel
theorem dX12_rewrite_35 : decode cX12_rewrite 35 = .ok (.sipush 4000, 3) := by decide +kernel
theorem dX12_rewrite_38 : decode cX12_rewrite 38 = .ok (.if_icmp .le 8, 3) := by decide +kernel
theorem dX12_rewrite_41 : decode cX12_rewrite 41 = .ok (.bipush (-10), 2) := by decide +kernel
theorem dX12_rewrite_43 : decode cX12_rewrite 43 = .ok (.iload_n 2, 1) := by decide +kernel
theorem dX12_rewrite_44 : decode cX12_rewrite 44 = .ok (.isub, 1) := by decide +kernel
theorem dX12_rewrite_45 : decode cX12_rewrite 45 = .ok (.ireturn, 1) := by decide +kernel
theorem dX12_rewrite_46 : decode cX12_rewrite 46 = .ok (.aload_n 0, 1) := by decide +kernel
theorem dX12_rewrite_47 : decode cX12_rewrite 47 = .ok (.iload_n 2, 1) := by decide +kernel
theorem dX12_rewrite_48 : decode cX12_rewrite 48 = .ok (.iconst 1, 1) := by decide +kernel
theorem dX12_rewrite_49 : decode cX12_rewrite 49 = .ok (.invokevirtual 235, 3) := by decide +kernel
theorem dX12_rewrite_52 : decode cX12_rewrite 52 = .ok (.aload_n 0, 1) := by decide +kernel
theorem dX12_rewrite_53 : decode cX12_rewrite 53 = .ok (.getfield 78, 3) := by decide +kernel
theorem dX12_rewrite_56 : decode cX12_rewrite 56 = .ok (.iload_n 2, 1) := by decide +kernel
theorem dX12_rewrite_57 : decode cX12_rewrite 57 = .ok (.aload_n 0, 1) := by decide +kernel
theorem dX12_rewrite_58 : decode cX12_rewrite 58 = .ok (.getfield 224, 3) := by decide +kernel
theorem dX12_rewrite_61 : decode cX12_rewrite 61 = .ok (.iastore, 1) := by decide +kernel
theorem dX12_rewrite_62 : decode cX12_rewrite 62 = .ok (.aload_n 0, 1) := by decide +kernel
theorem dX12_rewrite_63 : decode cX12_rewrite 63 = .ok (.getfield 72, 3) := by decide +kernel
theorem dX12_rewrite_66 : decode cX12_rewrite 66 = .ok (.iload_n 2, 1) := by decide +kernel
theorem dX12_rewrite_67 : decode cX12_rewrite 67 = .ok (.iload_n 3, 1) := by decide +kernel
theorem dX12_rewrite_68 : decode cX12_rewrite 68 = .ok (.iastore, 1) := by decide +kernel
theorem dX12_rewrite_69 : decode cX12_rewrite 69 = .ok (.iload_n 1, 1) := by decide +kernel
theorem dX12_rewrite_70 : decode cX12_rewrite 70 = .ok (.iload_n 3, 1) := by decide +kernel
theorem dX12_rewrite_71 : decode cX12_rewrite 71 = .ok (.iadd, 1) := by decide +kernel
theorem dX12_rewrite_72 : decode cX12_rewrite 72 = .ok (.istore_n 1, 1) := by decide +kernel
theorem dX12_rewrite_73 : decode cX12_rewrite 73 = .ok (.iconst 0, 1) := by decide +kernel
theorem dX12_rewrite_74 : decode cX12_rewrite 74 = .ok (.istore 4, 2) := by decide +kernel
theorem dX12_rewrite_76 : decode cX12_rewrite 76 = .ok (.iload 4, 2) := by decide +kernel
theorem dX12_rewrite_78 : decode cX12_rewrite 78 = .ok (.iload_n 3, 1) := by decide +kernel
theorem dX12_rewrite_79 : decode cX12_rewrite 79 = .ok (.if_icmp .ge 29, 3) := by decide +kernel
theorem dX12_rewrite_82 : decode cX12_rewrite 82 = .ok (.aload_n 0, 1) := by decide +kernel
theorem dX12_rewrite_83 : decode cX12_rewrite 83 = .ok (.getfield 69, 3) := by decide +kernel
theorem dX12_rewrite_86 : decode cX12_rewrite 86 = .ok (.sipush 4001, 3) := by decide +kernel
theorem dX12_rewrite_89 : decode cX12_rewrite 89 = .ok (.iload_n 2, 1) := by decide +kernel
theorem dX12_rewrite_90 : decode cX12_rewrite 90 = .ok (.imul, 1) := by decide +kernel
theorem dX12_rewrite_91 : decode cX12_rewrite 91 = .ok (.iload 4, 2) := by decide +kernel
theorem dX12_rewrite_93 : decode cX12_rewrite 93 = .ok (.iadd, 1) := by decide +kernel
theorem dX12_rewrite_94 : decode cX12_rewrite 94 = .ok (.aload_n 0, 1) := by decide +kernel
theorem dX12_rewrite_95 : decode cX12_rewrite 95 = .ok (.getfield 90, 3) := by decide +kernel
theorem dX12_rewrite_98 : decode cX12_rewrite 98 = .ok (.iload 4, 2) := by decide +kernel
theorem dX12_rewrite_100 : decode cX12_rewrite 100 = .ok (.iaload, 1) := by decide +kernel
theorem dX12_rewrite_101 : decode cX12_rewrite 101 = .ok (.iastore, 1) := by decide +kernel
theorem dX12_rewrite_102 : decode cX12_rewrite 102 = .ok (.iinc 4 1, 3) := by decide +kernel
theorem dX12_rewrite_105 : decode cX12_rewrite 105 = .ok (.goto (-29), 3) := by decide +kernel
theorem dX12_rewrite_108 : decode cX12_rewrite 108 = .ok (.iconst 0, 1) := by decide +kernel
theorem dX12_rewrite_109 : decode cX12_rewrite 109 = .ok (.istore 4, 2) := by decide +kernel
theorem dX12_rewrite_111 : decode cX12_rewrite 111 = .ok (.iload 4, 2) := by decide +kernel
theorem dX12_rewrite_113 : decode cX12_rewrite 113 = .ok (.aload_n 0, 1) := by decide +kernel
theorem dX12_rewrite_114 : decode cX12_rewrite 114 = .ok (.getfield 26, 3) := by decide +kernel
theorem dX12_rewrite_117 : decode cX12_rewrite 117 = .ok (.iload_n 2, 1) := by decide +kernel
theorem dX12_rewrite_118 : decode cX12_rewrite 118 = .ok (.iaload, 1) := by decide +kernel
theorem dX12_rewrite_119 : decode cX12_rewrite 119 = .ok (.if_icmp .ge 78, 3) := by decide +kernel
theorem dX12_rewrite_122 : decode cX12_rewrite 122 = .ok (.bipush 32, 2) := by decide +kernel
theorem dX12_rewrite_124 : decode cX12_rewrite 124 = .ok (.iload_n 2, 1) := by decide +kernel
theorem dX12_rewrite_125 : decode cX12_rewrite 125 = .ok (.imul, 1) := by decide +kernel
theorem dX12_rewrite_126 : decode cX12_rewrite 126 = .ok (.iconst 4, 1) := by decide +kernel
theorem dX12_rewrite_127 : decode cX12_rewrite 127 = .ok (.iload 4, 2) := by decide +kernel
theorem dX12_rewrite_129 : decode cX12_rewrite 129 = .ok (.imul, 1) := by decide +kernel
theorem dX12_rewrite_130 : decode cX12_rewrite 130 = .ok (.iadd, 1) := by decide +kernel
theorem dX12_rewrite_131 : decode cX12_rewrite 131 = .ok (.istore 5, 2) := by decide +kernel
theorem dX12_rewrite_133 : decode cX12_rewrite 133 = .ok (.iconst 0, 1) := by decide +kernel
theorem dX12_rewrite_134 : decode cX12_rewrite 134 = .ok (.istore 6, 2) := by decide +kernel
theorem dX12_rewrite_136 : decode cX12_rewrite 136 = .ok (.iload 6, 2) := by decide +kernel
theorem dX12_rewrite_138 : decode cX12_rewrite 138 = .ok (.iconst 3, 1) := by decide +kernel
theorem dX12_rewrite_139 : decode cX12_rewrite 139 = .ok (.if_icmp .ge 34, 3) := by decide +kernel
theorem dX12_rewrite_142 : decode cX12_rewrite 142 = .ok (.aload_n 0, 1) := by decide +kernel
theorem dX12_rewrite_143 : decode cX12_rewrite 143 = .ok (.getfield 75, 3) := by decide +kernel
theorem dX12_rewrite_146 : decode cX12_rewrite 146 = .ok (.iload 5, 2) := by decide +kernel
theorem dX12_rewrite_148 : decode cX12_rewrite 148 = .ok (.iload 6, 2) := by decide +kernel
theorem dX12_rewrite_150 : decode cX12_rewrite 150 = .ok (.iadd, 1) := by decide +kernel
theorem dX12_rewrite_151 : decode cX12_rewrite 151 = .ok (.aload_n 0, 1) := by decide +kernel
theorem dX12_rewrite_152 : decode cX12_rewrite 152 = .ok (.getfield 81, 3) := by decide +kernel
theorem dX12_rewrite_155 : decode cX12_rewrite 155 = .ok (.aload_n 0, 1) := by decide +kernel
theorem dX12_rewrite_156 : decode cX12_rewrite 156 = .ok (.getfield 29, 3) := by decide +kernel
theorem dX12_rewrite_159 : decode cX12_rewrite 159 = .ok (.iload 5, 2) := by decide +kernel
theorem dX12_rewrite_161 : decode cX12_rewrite 161 = .ok (.iload 6, 2) := by decide +kernel
theorem dX12_rewrite_163 : decode cX12_rewrite 163 = .ok (.iadd, 1) := by decide +kernel
theorem dX12_rewrite_164 : decode cX12_rewrite 164 = .ok (.iaload, 1) := by decide +kernel
theorem dX12_rewrite_165 : decode cX12_rewrite 165 = .ok (.iaload, 1) := by decide +kernel
theorem dX12_rewrite_166 : decode cX12_rewrite 166 = .ok (.iastore, 1) := by decide +kernel
theorem dX12_rewrite_167 : decode cX12_rewrite 167 = .ok (.iinc 6 1, 3) := by decide +kernel
theorem dX12_rewrite_170 : decode cX12_rewrite 170 = .ok (.goto (-34), 3) := by decide +kernel
theorem dX12_rewrite_173 : decode cX12_rewrite 173 = .ok (.aload_n 0, 1) := by decide +kernel
theorem dX12_rewrite_174 : decode cX12_rewrite 174 = .ok (.getfield 75, 3) := by decide +kernel
theorem dX12_rewrite_177 : decode cX12_rewrite 177 = .ok (.iload 5, 2) := by decide +kernel
theorem dX12_rewrite_179 : decode cX12_rewrite 179 = .ok (.iconst 3, 1) := by decide +kernel
theorem dX12_rewrite_180 : decode cX12_rewrite 180 = .ok (.iadd, 1) := by decide +kernel
theorem dX12_rewrite_181 : decode cX12_rewrite 181 = .ok (.aload_n 0, 1) := by decide +kernel
theorem dX12_rewrite_182 : decode cX12_rewrite 182 = .ok (.getfield 29, 3) := by decide +kernel
theorem dX12_rewrite_185 : decode cX12_rewrite 185 = .ok (.iload 5, 2) := by decide +kernel
theorem dX12_rewrite_187 : decode cX12_rewrite 187 = .ok (.iconst 3, 1) := by decide +kernel
theorem dX12_rewrite_188 : decode cX12_rewrite 188 = .ok (.iadd, 1) := by decide +kernel
theorem dX12_rewrite_189 : decode cX12_rewrite 189 = .ok (.iaload, 1) := by decide +kernel
theorem dX12_rewrite_190 : decode cX12_rewrite 190 = .ok (.iastore, 1) := by decide +kernel
theorem dX12_rewrite_191 : decode cX12_rewrite 191 = .ok (.iinc 4 1, 3) := by decide +kernel
theorem dX12_rewrite_194 : decode cX12_rewrite 194 = .ok (.goto (-83), 3) := by decide +kernel
theorem dX12_rewrite_197 : decode cX12_rewrite 197 = .ok (.iinc 2 1, 3) := by decide +kernel
theorem dX12_rewrite_200 : decode cX12_rewrite 200 = .ok (.goto (-181), 3) := by decide +kernel
theorem dX12_rewrite_203 : decode cX12_rewrite 203 = .ok (.aload_n 0, 1) := by decide +kernel
theorem dX12_rewrite_204 : decode cX12_rewrite 204 = .ok (.iconst 1, 1) := by decide +kernel
theorem dX12_rewrite_205 : decode cX12_rewrite 205 = .ok (.putfield 195, 3) := by decide +kernel
theorem dX12_rewrite_208 : decode cX12_rewrite 208 = .ok (.iload_n 1, 1) := by decide +kernel
theorem dX12_rewrite_209 : decode cX12_rewrite 209 = .ok (.ireturn, 1) := by decide +kernel
abbrev wcX12_rewrite : List Cond := .code yX12_rewrite cX12_rewrite 7 (some .int) :: wsL_law
def lX12_rewrite_76 : Nat → Nat → Int32 → Int32 → Int32 → Int32 → hs_S → Option (hs_S)
  | 0, _, _, _, _, _, _ => none
  | n + 1, v0, v1, v2, v3, v4, g =>
    if v3 ≤ v4 then (
      some g
    ) else (
      if hs_kd g v0 = 10 then
      if ¬ (hs_R g v0 23) = 0 then
      if ¬ (hs_R g v0 30) = 0 then
      if hs_kd g ((hs_R g v0 30) - 1) = 100 then
      if hs_in v4 (hs_ln g ((hs_R g v0 30) - 1)) = true then
      if hs_kd g ((hs_R g v0 23) - 1) = 100 then
      if hs_in (((4001 : Int32) * v2) + v4) (hs_ln g ((hs_R g v0 23) - 1)) = true then
      hs_bv (some (hs_wI g ((hs_R g v0 23) - 1) (((4001 : Int32) * v2) + v4).toNatClampNeg (hs_I g ((hs_R g v0 30) - 1) v4.toNatClampNeg))) fun g31 =>
      lX12_rewrite_76 n v0 v1 v2 v3 (v4 + (1 : Int32)) g31
      else none else none else none else none else none else none else none
    )
theorem lX12_rewrite_76_s (n : Nat) (v0 : Nat) (v1 : Int32) (v2 : Int32) (v3 : Int32) (v4 : Int32) (g : hs_S) : lX12_rewrite_76 (n + 1) v0 v1 v2 v3 v4 g =
    if v3 ≤ v4 then (
      some g
    ) else (
      if hs_kd g v0 = 10 then
      if ¬ (hs_R g v0 23) = 0 then
      if ¬ (hs_R g v0 30) = 0 then
      if hs_kd g ((hs_R g v0 30) - 1) = 100 then
      if hs_in v4 (hs_ln g ((hs_R g v0 30) - 1)) = true then
      if hs_kd g ((hs_R g v0 23) - 1) = 100 then
      if hs_in (((4001 : Int32) * v2) + v4) (hs_ln g ((hs_R g v0 23) - 1)) = true then
      hs_bv (some (hs_wI g ((hs_R g v0 23) - 1) (((4001 : Int32) * v2) + v4).toNatClampNeg (hs_I g ((hs_R g v0 30) - 1) v4.toNatClampNeg))) fun g31 =>
      lX12_rewrite_76 n v0 v1 v2 v3 (v4 + (1 : Int32)) g31
      else none else none else none else none else none else none else none
    ) := rfl
def lX12_rewrite_136 : Nat → Nat → Int32 → Int32 → Int32 → Int32 → Int32 → hs_S → Option (hs_S)
  | 0, _, _, _, _, _, _, _ => none
  | n + 1, v0, v1, v2, v4, v5, v6, g =>
    if (3 : Int32) ≤ v6 then (
      some g
    ) else (
      if hs_kd g v0 = 10 then
      if ¬ (hs_R g v0 25) = 0 then
      if ¬ (hs_R g v0 27) = 0 then
      if ¬ (hs_R g v0 9) = 0 then
      if hs_kd g ((hs_R g v0 9) - 1) = 100 then
      if hs_in (v5 + v6) (hs_ln g ((hs_R g v0 9) - 1)) = true then
      if hs_kd g ((hs_R g v0 27) - 1) = 100 then
      if hs_in (hs_I g ((hs_R g v0 9) - 1) (v5 + v6).toNatClampNeg) (hs_ln g ((hs_R g v0 27) - 1)) = true then
      if hs_kd g ((hs_R g v0 25) - 1) = 100 then
      if hs_in (v5 + v6) (hs_ln g ((hs_R g v0 25) - 1)) = true then
      hs_bv (some (hs_wI g ((hs_R g v0 25) - 1) (v5 + v6).toNatClampNeg (hs_I g ((hs_R g v0 27) - 1) (hs_I g ((hs_R g v0 9) - 1) (v5 + v6).toNatClampNeg).toNatClampNeg))) fun g55 =>
      lX12_rewrite_136 n v0 v1 v2 v4 v5 (v6 + (1 : Int32)) g55
      else none else none else none else none else none else none else none else none else none else none
    )
theorem lX12_rewrite_136_s (n : Nat) (v0 : Nat) (v1 : Int32) (v2 : Int32) (v4 : Int32) (v5 : Int32) (v6 : Int32) (g : hs_S) : lX12_rewrite_136 (n + 1) v0 v1 v2 v4 v5 v6 g =
    if (3 : Int32) ≤ v6 then (
      some g
    ) else (
      if hs_kd g v0 = 10 then
      if ¬ (hs_R g v0 25) = 0 then
      if ¬ (hs_R g v0 27) = 0 then
      if ¬ (hs_R g v0 9) = 0 then
      if hs_kd g ((hs_R g v0 9) - 1) = 100 then
      if hs_in (v5 + v6) (hs_ln g ((hs_R g v0 9) - 1)) = true then
      if hs_kd g ((hs_R g v0 27) - 1) = 100 then
      if hs_in (hs_I g ((hs_R g v0 9) - 1) (v5 + v6).toNatClampNeg) (hs_ln g ((hs_R g v0 27) - 1)) = true then
      if hs_kd g ((hs_R g v0 25) - 1) = 100 then
      if hs_in (v5 + v6) (hs_ln g ((hs_R g v0 25) - 1)) = true then
      hs_bv (some (hs_wI g ((hs_R g v0 25) - 1) (v5 + v6).toNatClampNeg (hs_I g ((hs_R g v0 27) - 1) (hs_I g ((hs_R g v0 9) - 1) (v5 + v6).toNatClampNeg).toNatClampNeg))) fun g55 =>
      lX12_rewrite_136 n v0 v1 v2 v4 v5 (v6 + (1 : Int32)) g55
      else none else none else none else none else none else none else none else none else none else none
    ) := rfl
def lX12_rewrite_111 : Nat → Nat → Int32 → Int32 → Int32 → hs_S → Option (hs_S)
  | 0, _, _, _, _, _ => none
  | n + 1, v0, v1, v2, v4, g =>
    if hs_kd g v0 = 10 then
    if ¬ (hs_R g v0 8) = 0 then
    if hs_kd g ((hs_R g v0 8) - 1) = 100 then
    if hs_in v2 (hs_ln g ((hs_R g v0 8) - 1)) = true then
    if (hs_I g ((hs_R g v0 8) - 1) v2.toNatClampNeg) ≤ v4 then (
      some g
    ) else (
      hs_bv (lX12_rewrite_136 hs_N v0 v1 v2 v4 (((32 : Int32) * v2) + ((4 : Int32) * v4)) (0 : Int32) g) fun g65 =>
      if hs_kd g65 v0 = 10 then
      if ¬ (hs_R g65 v0 25) = 0 then
      if ¬ (hs_R g65 v0 9) = 0 then
      if hs_kd g65 ((hs_R g65 v0 9) - 1) = 100 then
      if hs_in ((((32 : Int32) * v2) + ((4 : Int32) * v4)) + (3 : Int32)) (hs_ln g65 ((hs_R g65 v0 9) - 1)) = true then
      if hs_kd g65 ((hs_R g65 v0 25) - 1) = 100 then
      if hs_in ((((32 : Int32) * v2) + ((4 : Int32) * v4)) + (3 : Int32)) (hs_ln g65 ((hs_R g65 v0 25) - 1)) = true then
      hs_bv (some (hs_wI g65 ((hs_R g65 v0 25) - 1) ((((32 : Int32) * v2) + ((4 : Int32) * v4)) + (3 : Int32)).toNatClampNeg (hs_I g65 ((hs_R g65 v0 9) - 1) ((((32 : Int32) * v2) + ((4 : Int32) * v4)) + (3 : Int32)).toNatClampNeg))) fun g74 =>
      lX12_rewrite_111 n v0 v1 v2 (v4 + (1 : Int32)) g74
      else none else none else none else none else none else none else none
    )
    else none else none else none else none
theorem lX12_rewrite_111_s (n : Nat) (v0 : Nat) (v1 : Int32) (v2 : Int32) (v4 : Int32) (g : hs_S) : lX12_rewrite_111 (n + 1) v0 v1 v2 v4 g =
    if hs_kd g v0 = 10 then
    if ¬ (hs_R g v0 8) = 0 then
    if hs_kd g ((hs_R g v0 8) - 1) = 100 then
    if hs_in v2 (hs_ln g ((hs_R g v0 8) - 1)) = true then
    if (hs_I g ((hs_R g v0 8) - 1) v2.toNatClampNeg) ≤ v4 then (
      some g
    ) else (
      hs_bv (lX12_rewrite_136 hs_N v0 v1 v2 v4 (((32 : Int32) * v2) + ((4 : Int32) * v4)) (0 : Int32) g) fun g65 =>
      if hs_kd g65 v0 = 10 then
      if ¬ (hs_R g65 v0 25) = 0 then
      if ¬ (hs_R g65 v0 9) = 0 then
      if hs_kd g65 ((hs_R g65 v0 9) - 1) = 100 then
      if hs_in ((((32 : Int32) * v2) + ((4 : Int32) * v4)) + (3 : Int32)) (hs_ln g65 ((hs_R g65 v0 9) - 1)) = true then
      if hs_kd g65 ((hs_R g65 v0 25) - 1) = 100 then
      if hs_in ((((32 : Int32) * v2) + ((4 : Int32) * v4)) + (3 : Int32)) (hs_ln g65 ((hs_R g65 v0 25) - 1)) = true then
      hs_bv (some (hs_wI g65 ((hs_R g65 v0 25) - 1) ((((32 : Int32) * v2) + ((4 : Int32) * v4)) + (3 : Int32)).toNatClampNeg (hs_I g65 ((hs_R g65 v0 9) - 1) ((((32 : Int32) * v2) + ((4 : Int32) * v4)) + (3 : Int32)).toNatClampNeg))) fun g74 =>
      lX12_rewrite_111 n v0 v1 v2 (v4 + (1 : Int32)) g74
      else none else none else none else none else none else none else none
    )
    else none else none else none else none := rfl
def lX12_rewrite_19 : Nat → Nat → Int32 → Int32 → hs_S → Option (Nat × Int32 × Int32 × hs_S)
  | 0, _, _, _, _ => none
  | n + 1, v0, v1, v2, g =>
    if hs_kd g v0 = 10 then
    if (hs_I g v0 4) ≤ v2 then (
      some (0, v1, v2, g)
    ) else (
      hs_bd (fX12_lay v0 v2 (1 : Int32) g) fun r4 g3 =>
      if r4 ≤ (4000 : Int32) then (
        if hs_kd g3 v0 = 10 then
        hs_bv (fX12_put v0 v2 (1 : Int32) g3) fun g7 =>
        if hs_kd g7 v0 = 10 then
        if ¬ (hs_R g7 v0 26) = 0 then
        if hs_kd g7 ((hs_R g7 v0 26) - 1) = 100 then
        if hs_in v2 (hs_ln g7 ((hs_R g7 v0 26) - 1)) = true then
        if ¬ (hs_R (hs_wI g7 ((hs_R g7 v0 26) - 1) v2.toNatClampNeg (hs_I g7 v0 31)) v0 24) = 0 then
        if hs_kd (hs_wI g7 ((hs_R g7 v0 26) - 1) v2.toNatClampNeg (hs_I g7 v0 31)) ((hs_R (hs_wI g7 ((hs_R g7 v0 26) - 1) v2.toNatClampNeg (hs_I g7 v0 31)) v0 24) - 1) = 100 then
        if hs_in v2 (hs_ln (hs_wI g7 ((hs_R g7 v0 26) - 1) v2.toNatClampNeg (hs_I g7 v0 31)) ((hs_R (hs_wI g7 ((hs_R g7 v0 26) - 1) v2.toNatClampNeg (hs_I g7 v0 31)) v0 24) - 1)) = true then
        hs_bv (some (hs_wI (hs_wI g7 ((hs_R g7 v0 26) - 1) v2.toNatClampNeg (hs_I g7 v0 31)) ((hs_R (hs_wI g7 ((hs_R g7 v0 26) - 1) v2.toNatClampNeg (hs_I g7 v0 31)) v0 24) - 1) v2.toNatClampNeg r4)) fun g17 =>
        hs_bv (lX12_rewrite_76 hs_N v0 (v1 + r4) v2 r4 (0 : Int32) g17) fun g39 =>
        hs_bv (lX12_rewrite_111 hs_N v0 (v1 + r4) v2 (0 : Int32) g39) fun g82 =>
        lX12_rewrite_19 n v0 (v1 + r4) (v2 + (1 : Int32)) g82
        else none else none else none else none else none else none else none else none
      ) else (
        some (1, v1, v2, g3)
      )
    )
    else none
theorem lX12_rewrite_19_s (n : Nat) (v0 : Nat) (v1 : Int32) (v2 : Int32) (g : hs_S) : lX12_rewrite_19 (n + 1) v0 v1 v2 g =
    if hs_kd g v0 = 10 then
    if (hs_I g v0 4) ≤ v2 then (
      some (0, v1, v2, g)
    ) else (
      hs_bd (fX12_lay v0 v2 (1 : Int32) g) fun r4 g3 =>
      if r4 ≤ (4000 : Int32) then (
        if hs_kd g3 v0 = 10 then
        hs_bv (fX12_put v0 v2 (1 : Int32) g3) fun g7 =>
        if hs_kd g7 v0 = 10 then
        if ¬ (hs_R g7 v0 26) = 0 then
        if hs_kd g7 ((hs_R g7 v0 26) - 1) = 100 then
        if hs_in v2 (hs_ln g7 ((hs_R g7 v0 26) - 1)) = true then
        if ¬ (hs_R (hs_wI g7 ((hs_R g7 v0 26) - 1) v2.toNatClampNeg (hs_I g7 v0 31)) v0 24) = 0 then
        if hs_kd (hs_wI g7 ((hs_R g7 v0 26) - 1) v2.toNatClampNeg (hs_I g7 v0 31)) ((hs_R (hs_wI g7 ((hs_R g7 v0 26) - 1) v2.toNatClampNeg (hs_I g7 v0 31)) v0 24) - 1) = 100 then
        if hs_in v2 (hs_ln (hs_wI g7 ((hs_R g7 v0 26) - 1) v2.toNatClampNeg (hs_I g7 v0 31)) ((hs_R (hs_wI g7 ((hs_R g7 v0 26) - 1) v2.toNatClampNeg (hs_I g7 v0 31)) v0 24) - 1)) = true then
        hs_bv (some (hs_wI (hs_wI g7 ((hs_R g7 v0 26) - 1) v2.toNatClampNeg (hs_I g7 v0 31)) ((hs_R (hs_wI g7 ((hs_R g7 v0 26) - 1) v2.toNatClampNeg (hs_I g7 v0 31)) v0 24) - 1) v2.toNatClampNeg r4)) fun g17 =>
        hs_bv (lX12_rewrite_76 hs_N v0 (v1 + r4) v2 r4 (0 : Int32) g17) fun g39 =>
        hs_bv (lX12_rewrite_111 hs_N v0 (v1 + r4) v2 (0 : Int32) g39) fun g82 =>
        lX12_rewrite_19 n v0 (v1 + r4) (v2 + (1 : Int32)) g82
        else none else none else none else none else none else none else none else none
      ) else (
        some (1, v1, v2, g3)
      )
    )
    else none := rfl
def fX12_rewrite (v0 : Nat) (g : hs_S) : Option (Int32 × hs_S) :=
  if hs_kd g v0 = 10 then
  if (hs_I g v0 3) = 0 then (
    some ((-2 : Int32), g)
  ) else (
    hs_b4 (lX12_rewrite_19 hs_N v0 (0 : Int32) (0 : Int32) (hs_wI g v0 22 (0 : Int32))) fun k86 x84 x85 g87 =>
    if k86 = 0 then (
      if hs_kd g87 v0 = 10 then
      some (x84, (hs_wI g87 v0 22 (1 : Int32)))
      else none
    ) else (
      some (((-10 : Int32) - x85), g87)
    )
  )
  else none
abbrev rmX12_rewrite : Room := { frames := 5, cells := 0, slots := 0, locals := 120 }
set_option maxHeartbeats 4000000 in
set_option maxRecDepth 100000 in
theorem wX12_rewrite_76 {p : Program} {l : Launch} {e : Env} {s : State} {m : MethodId} {args : Array Value} {below : List Frame} {meth : Method} {c : Code} {B : Nat} {D : va_G} {E : Nat → ClassId} (hX : hs_cx cX12_rewrite (some .int) 7 RX12 wcX12_rewrite p s m args meth c D E) {Q : State → Prop} {o : hs_S} {v0 : Nat} {v1 : Int32} {v2 : Int32} {v3 : Int32} (hex0 : ∀ (H : Heap) (locs : List Loc) (ls : Array Slot), hs_P B D E (o) H → hs_Sx B s.heap H locs → lv_has ls 7 [(0, .ref (B + v0)), (1, .int v1), (2, .int v2)] → W p l e rmX12_rewrite s m args below meth c H locs 0 0 Q (F0 m 108 ls [])) : ∀ (n : Nat) (v4 : Int32) (g : hs_S), lX12_rewrite_76 n v0 v1 v2 v3 v4 g = some o → ∀ (H : Heap) (locs : List Loc) (ls : Array Slot), hs_P B D E g H → hs_Sx B s.heap H locs → lv_has ls 7 [(0, .ref (B + v0)), (1, .int v1), (2, .int v2), (3, .int v3), (4, .int v4)] → W p l e rmX12_rewrite s m args below meth c H locs 0 0 Q (F0 m 76 ls []) := by
  obtain ⟨hx, hb, hr, hml, hown, hts, hlocks, hK⟩ := id hX
  intro n
  induction n with
  | zero =>
    intro v4 g hf
    cases hf
  | succ n ih =>
    intro v4 g hf H locs ls hP hS hl
    replace hf := (lX12_rewrite_76_s n v0 v1 v2 v3 v4 g).symm.trans hf
    refine lv_iload hx hb dX12_rewrite_76 (lv_at hl 4 rfl) ?_
    refine lv_iload_n hx hb dX12_rewrite_78 rfl (lv_at hl 3 rfl) ?_
    refine lv_icmp_ge (tgt := 108) hx hb dX12_rewrite_79 (by decide) (fun hc => ?_) (fun hc => ?_)
    · replace hf := hs_t hf hc
      obtain rfl := Option.some.inj hf
      exact hex0 _ _ _ hP hS (lv_sub hl [0, 1, 2] rfl)
    · replace hf := hs_f hf hc
      refine lv_aload_n hx hb dX12_rewrite_82 rfl (lv_at hl 0 rfl) ?_
      obtain ⟨h24, hf⟩ := hs_ck hf
      obtain ⟨h25, hf⟩ := hs_ck hf
      refine hs_getr (C := RX12) (T := TX12) (N := 48) hx hb hts (fun w h => List.mem_cons_of_mem _ (inlX12 w h)) hown hK.1 hP h24 (by decide) rfl 23 (by decide) (hts _ (List.mem_cons_of_mem _ wq141)) (fun _ h => h) rfl h25 dX12_rewrite_83 ?_
      refine lv_sipush (v := 4001) hx hb dX12_rewrite_86 (by decide) ?_
      refine lv_iload_n hx hb dX12_rewrite_89 rfl (lv_at hl 2 rfl) ?_
      refine lv_imul hx hb dX12_rewrite_90 ?_
      refine lv_iload hx hb dX12_rewrite_91 (lv_at hl 4 rfl) ?_
      refine lv_iadd hx hb dX12_rewrite_93 ?_
      refine lv_aload_n hx hb dX12_rewrite_94 rfl (lv_at hl 0 rfl) ?_
      obtain ⟨h26, hf⟩ := hs_ck hf
      refine hs_getr (C := RX12) (T := TX12) (N := 48) hx hb hts (fun w h => List.mem_cons_of_mem _ (inlX12 w h)) hown hK.1 hP h24 (by decide) rfl 30 (by decide) (hts _ (List.mem_cons_of_mem _ wq148)) (fun _ h => h) rfl h26 dX12_rewrite_95 ?_
      refine lv_iload hx hb dX12_rewrite_98 (lv_at hl 4 rfl) ?_
      obtain ⟨h27, hf⟩ := hs_ck hf
      obtain ⟨h28, hf⟩ := hs_ck hf
      refine hs_iald hx hb hK.1 hP h27 h28 dX12_rewrite_100 ?_
      obtain ⟨h29, hf⟩ := hs_ck hf
      obtain ⟨h30, hf⟩ := hs_ck hf
      refine hs_iast hx hb hK.1 hP hS h29 h30 dX12_rewrite_101 (fun H locs hP hS => ?_)
      obtain ⟨g31, e32, hf⟩ := hs_bv_some hf
      replace e32 := Option.some.inj e32
      rw [e32] at hP
      have h33 : hs_kd g31 v0 = 10 := by rw [← e32]; exact h24
      have h34 : hs_kd g31 ((hs_R g v0 30) - 1) = 100 := by rw [← e32]; exact h27
      have h35 : hs_in v4 (hs_ln g31 ((hs_R g v0 30) - 1)) = true := by rw [← e32]; exact h28
      have h36 : hs_kd g31 ((hs_R g v0 23) - 1) = 100 := by rw [← e32]; exact h29
      have h37 : hs_in (((4001 : Int32) * v2) + v4) (hs_ln g31 ((hs_R g v0 23) - 1)) = true := by rw [← e32]; exact h30
      refine lv_iinc (v := (v4 + (1 : Int32))) (lv' := [(4, .int (v4 + (1 : Int32))), (0, .ref (B + v0)), (1, .int v1), (2, .int v2), (3, .int v3)]) hx hb dX12_rewrite_102 hl (k := 4) rfl (by rfl) (by decide) rfl (fun ls hl => ?_)
      refine lv_goto (tgt := 76) hx hb dX12_rewrite_105 (by decide) ?_
      exact ih _ _ hf _ _ _ hP hS (lv_sub hl [1, 2, 3, 4, 0] rfl)

set_option maxHeartbeats 4000000 in
set_option maxRecDepth 100000 in
theorem wX12_rewrite_136 {p : Program} {l : Launch} {e : Env} {s : State} {m : MethodId} {args : Array Value} {below : List Frame} {meth : Method} {c : Code} {B : Nat} {D : va_G} {E : Nat → ClassId} (hX : hs_cx cX12_rewrite (some .int) 7 RX12 wcX12_rewrite p s m args meth c D E) {Q : State → Prop} {o : hs_S} {v0 : Nat} {v1 : Int32} {v2 : Int32} {v4 : Int32} {v5 : Int32} (hex0 : ∀ (H : Heap) (locs : List Loc) (ls : Array Slot), hs_P B D E (o) H → hs_Sx B s.heap H locs → lv_has ls 7 [(0, .ref (B + v0)), (1, .int v1), (2, .int v2), (4, .int v4), (5, .int v5)] → W p l e rmX12_rewrite s m args below meth c H locs 0 0 Q (F0 m 173 ls [])) : ∀ (n : Nat) (v6 : Int32) (g : hs_S), lX12_rewrite_136 n v0 v1 v2 v4 v5 v6 g = some o → ∀ (H : Heap) (locs : List Loc) (ls : Array Slot), hs_P B D E g H → hs_Sx B s.heap H locs → lv_has ls 7 [(0, .ref (B + v0)), (1, .int v1), (2, .int v2), (4, .int v4), (5, .int v5), (6, .int v6)] → W p l e rmX12_rewrite s m args below meth c H locs 0 0 Q (F0 m 136 ls []) := by
  obtain ⟨hx, hb, hr, hml, hown, hts, hlocks, hK⟩ := id hX
  intro n
  induction n with
  | zero =>
    intro v6 g hf
    cases hf
  | succ n ih =>
    intro v6 g hf H locs ls hP hS hl
    replace hf := (lX12_rewrite_136_s n v0 v1 v2 v4 v5 v6 g).symm.trans hf
    refine lv_iload hx hb dX12_rewrite_136 (lv_at hl 5 rfl) ?_
    refine lv_iconst (v := 3) hx hb dX12_rewrite_138 (by decide) ?_
    refine lv_icmp_ge (tgt := 173) hx hb dX12_rewrite_139 (by decide) (fun hc => ?_) (fun hc => ?_)
    · replace hf := hs_t hf hc
      obtain rfl := Option.some.inj hf
      exact hex0 _ _ _ hP hS (lv_sub hl [0, 1, 2, 3, 4] rfl)
    · replace hf := hs_f hf hc
      refine lv_aload_n hx hb dX12_rewrite_142 rfl (lv_at hl 0 rfl) ?_
      obtain ⟨h45, hf⟩ := hs_ck hf
      obtain ⟨h46, hf⟩ := hs_ck hf
      refine hs_getr (C := RX12) (T := TX12) (N := 48) hx hb hts (fun w h => List.mem_cons_of_mem _ (inlX12 w h)) hown hK.1 hP h45 (by decide) rfl 25 (by decide) (hts _ (List.mem_cons_of_mem _ wq143)) (fun _ h => h) rfl h46 dX12_rewrite_143 ?_
      refine lv_iload hx hb dX12_rewrite_146 (lv_at hl 4 rfl) ?_
      refine lv_iload hx hb dX12_rewrite_148 (lv_at hl 5 rfl) ?_
      refine lv_iadd hx hb dX12_rewrite_150 ?_
      refine lv_aload_n hx hb dX12_rewrite_151 rfl (lv_at hl 0 rfl) ?_
      obtain ⟨h47, hf⟩ := hs_ck hf
      refine hs_getr (C := RX12) (T := TX12) (N := 48) hx hb hts (fun w h => List.mem_cons_of_mem _ (inlX12 w h)) hown hK.1 hP h45 (by decide) rfl 27 (by decide) (hts _ (List.mem_cons_of_mem _ wq145)) (fun _ h => h) rfl h47 dX12_rewrite_152 ?_
      refine lv_aload_n hx hb dX12_rewrite_155 rfl (lv_at hl 0 rfl) ?_
      obtain ⟨h48, hf⟩ := hs_ck hf
      refine hs_getr (C := RX12) (T := TX12) (N := 48) hx hb hts (fun w h => List.mem_cons_of_mem _ (inlX12 w h)) hown hK.1 hP h45 (by decide) rfl 9 (by decide) (hts _ (List.mem_cons_of_mem _ wq127)) (fun _ h => h) rfl h48 dX12_rewrite_156 ?_
      refine lv_iload hx hb dX12_rewrite_159 (lv_at hl 4 rfl) ?_
      refine lv_iload hx hb dX12_rewrite_161 (lv_at hl 5 rfl) ?_
      refine lv_iadd hx hb dX12_rewrite_163 ?_
      obtain ⟨h49, hf⟩ := hs_ck hf
      obtain ⟨h50, hf⟩ := hs_ck hf
      refine hs_iald hx hb hK.1 hP h49 h50 dX12_rewrite_164 ?_
      obtain ⟨h51, hf⟩ := hs_ck hf
      obtain ⟨h52, hf⟩ := hs_ck hf
      refine hs_iald hx hb hK.1 hP h51 h52 dX12_rewrite_165 ?_
      obtain ⟨h53, hf⟩ := hs_ck hf
      obtain ⟨h54, hf⟩ := hs_ck hf
      refine hs_iast hx hb hK.1 hP hS h53 h54 dX12_rewrite_166 (fun H locs hP hS => ?_)
      obtain ⟨g55, e56, hf⟩ := hs_bv_some hf
      replace e56 := Option.some.inj e56
      rw [e56] at hP
      have h57 : hs_kd g55 v0 = 10 := by rw [← e56]; exact h45
      have h58 : hs_kd g55 ((hs_R g v0 9) - 1) = 100 := by rw [← e56]; exact h49
      have h59 : hs_in (v5 + v6) (hs_ln g55 ((hs_R g v0 9) - 1)) = true := by rw [← e56]; exact h50
      have h60 : hs_kd g55 ((hs_R g v0 27) - 1) = 100 := by rw [← e56]; exact h51
      have h61 : hs_in (hs_I g ((hs_R g v0 9) - 1) (v5 + v6).toNatClampNeg) (hs_ln g55 ((hs_R g v0 27) - 1)) = true := by rw [← e56]; exact h52
      have h62 : hs_kd g55 ((hs_R g v0 25) - 1) = 100 := by rw [← e56]; exact h53
      have h63 : hs_in (v5 + v6) (hs_ln g55 ((hs_R g v0 25) - 1)) = true := by rw [← e56]; exact h54
      refine lv_iinc (v := (v6 + (1 : Int32))) (lv' := [(6, .int (v6 + (1 : Int32))), (0, .ref (B + v0)), (1, .int v1), (2, .int v2), (4, .int v4), (5, .int v5)]) hx hb dX12_rewrite_167 hl (k := 5) rfl (by rfl) (by decide) rfl (fun ls hl => ?_)
      refine lv_goto (tgt := 136) hx hb dX12_rewrite_170 (by decide) ?_
      exact ih _ _ hf _ _ _ hP hS (lv_sub hl [1, 2, 3, 4, 5, 0] rfl)

set_option maxHeartbeats 4000000 in
set_option maxRecDepth 100000 in
theorem wX12_rewrite_111 {p : Program} {l : Launch} {e : Env} {s : State} {m : MethodId} {args : Array Value} {below : List Frame} {meth : Method} {c : Code} {B : Nat} {D : va_G} {E : Nat → ClassId} (hX : hs_cx cX12_rewrite (some .int) 7 RX12 wcX12_rewrite p s m args meth c D E) {Q : State → Prop} {o : hs_S} {v0 : Nat} {v1 : Int32} {v2 : Int32} (hex0 : ∀ (H : Heap) (locs : List Loc) (ls : Array Slot), hs_P B D E (o) H → hs_Sx B s.heap H locs → lv_has ls 7 [(0, .ref (B + v0)), (1, .int v1), (2, .int v2)] → W p l e rmX12_rewrite s m args below meth c H locs 0 0 Q (F0 m 197 ls [])) : ∀ (n : Nat) (v4 : Int32) (g : hs_S), lX12_rewrite_111 n v0 v1 v2 v4 g = some o → ∀ (H : Heap) (locs : List Loc) (ls : Array Slot), hs_P B D E g H → hs_Sx B s.heap H locs → lv_has ls 7 [(0, .ref (B + v0)), (1, .int v1), (2, .int v2), (4, .int v4)] → W p l e rmX12_rewrite s m args below meth c H locs 0 0 Q (F0 m 111 ls []) := by
  obtain ⟨hx, hb, hr, hml, hown, hts, hlocks, hK⟩ := id hX
  intro n
  induction n with
  | zero =>
    intro v4 g hf
    cases hf
  | succ n ih =>
    intro v4 g hf H locs ls hP hS hl
    replace hf := (lX12_rewrite_111_s n v0 v1 v2 v4 g).symm.trans hf
    refine lv_iload hx hb dX12_rewrite_111 (lv_at hl 3 rfl) ?_
    refine lv_aload_n hx hb dX12_rewrite_113 rfl (lv_at hl 0 rfl) ?_
    obtain ⟨h41, hf⟩ := hs_ck hf
    obtain ⟨h42, hf⟩ := hs_ck hf
    refine hs_getr (C := RX12) (T := TX12) (N := 48) hx hb hts (fun w h => List.mem_cons_of_mem _ (inlX12 w h)) hown hK.1 hP h41 (by decide) rfl 8 (by decide) (hts _ (List.mem_cons_of_mem _ wq126)) (fun _ h => h) rfl h42 dX12_rewrite_114 ?_
    refine lv_iload_n hx hb dX12_rewrite_117 rfl (lv_at hl 2 rfl) ?_
    obtain ⟨h43, hf⟩ := hs_ck hf
    obtain ⟨h44, hf⟩ := hs_ck hf
    refine hs_iald hx hb hK.1 hP h43 h44 dX12_rewrite_118 ?_
    refine lv_icmp_ge (tgt := 197) hx hb dX12_rewrite_119 (by decide) (fun hc => ?_) (fun hc => ?_)
    · replace hf := hs_t hf hc
      obtain rfl := Option.some.inj hf
      exact hex0 _ _ _ hP hS (lv_sub hl [0, 1, 2] rfl)
    · replace hf := hs_f hf hc
      refine lv_bipush (v := 32) hx hb dX12_rewrite_122 (by decide) ?_
      refine lv_iload_n hx hb dX12_rewrite_124 rfl (lv_at hl 2 rfl) ?_
      refine lv_imul hx hb dX12_rewrite_125 ?_
      refine lv_iconst (v := 4) hx hb dX12_rewrite_126 (by decide) ?_
      refine lv_iload hx hb dX12_rewrite_127 (lv_at hl 3 rfl) ?_
      refine lv_imul hx hb dX12_rewrite_129 ?_
      refine lv_iadd hx hb dX12_rewrite_130 ?_
      refine lv_istore (lv' := [(5, .int (((32 : Int32) * v2) + ((4 : Int32) * v4))), (0, .ref (B + v0)), (1, .int v1), (2, .int v2), (4, .int v4)]) hx hb dX12_rewrite_131 hl (by decide) rfl (fun ls hl => ?_)
      refine lv_iconst (v := 0) hx hb dX12_rewrite_133 (by decide) ?_
      refine lv_istore (lv' := [(6, .int (0 : Int32)), (5, .int (((32 : Int32) * v2) + ((4 : Int32) * v4))), (0, .ref (B + v0)), (1, .int v1), (2, .int v2), (4, .int v4)]) hx hb dX12_rewrite_134 hl (by decide) rfl (fun ls hl => ?_)
      obtain ⟨g65, h66, hf⟩ := hs_bv_some hf
      refine wX12_rewrite_136 hX (fun H locs ls hP hS hl => ?_) hs_N _ _ h66 _ _ _ hP hS (lv_sub hl [2, 3, 4, 5, 1, 0] rfl)
      refine lv_aload_n hx hb dX12_rewrite_173 rfl (lv_at hl 0 rfl) ?_
      obtain ⟨h67, hf⟩ := hs_ck hf
      obtain ⟨h68, hf⟩ := hs_ck hf
      refine hs_getr (C := RX12) (T := TX12) (N := 48) hx hb hts (fun w h => List.mem_cons_of_mem _ (inlX12 w h)) hown hK.1 hP h67 (by decide) rfl 25 (by decide) (hts _ (List.mem_cons_of_mem _ wq143)) (fun _ h => h) rfl h68 dX12_rewrite_174 ?_
      refine lv_iload hx hb dX12_rewrite_177 (lv_at hl 4 rfl) ?_
      refine lv_iconst (v := 3) hx hb dX12_rewrite_179 (by decide) ?_
      refine lv_iadd hx hb dX12_rewrite_180 ?_
      refine lv_aload_n hx hb dX12_rewrite_181 rfl (lv_at hl 0 rfl) ?_
      obtain ⟨h69, hf⟩ := hs_ck hf
      refine hs_getr (C := RX12) (T := TX12) (N := 48) hx hb hts (fun w h => List.mem_cons_of_mem _ (inlX12 w h)) hown hK.1 hP h67 (by decide) rfl 9 (by decide) (hts _ (List.mem_cons_of_mem _ wq127)) (fun _ h => h) rfl h69 dX12_rewrite_182 ?_
      refine lv_iload hx hb dX12_rewrite_185 (lv_at hl 4 rfl) ?_
      refine lv_iconst (v := 3) hx hb dX12_rewrite_187 (by decide) ?_
      refine lv_iadd hx hb dX12_rewrite_188 ?_
      obtain ⟨h70, hf⟩ := hs_ck hf
      obtain ⟨h71, hf⟩ := hs_ck hf
      refine hs_iald hx hb hK.1 hP h70 h71 dX12_rewrite_189 ?_
      obtain ⟨h72, hf⟩ := hs_ck hf
      obtain ⟨h73, hf⟩ := hs_ck hf
      refine hs_iast hx hb hK.1 hP hS h72 h73 dX12_rewrite_190 (fun H locs hP hS => ?_)
      obtain ⟨g74, e75, hf⟩ := hs_bv_some hf
      replace e75 := Option.some.inj e75
      rw [e75] at hP
      have h76 : hs_kd g74 v0 = 10 := by rw [← e75]; exact h67
      have h77 : hs_kd g74 ((hs_R g65 v0 9) - 1) = 100 := by rw [← e75]; exact h70
      have h78 : hs_in ((((32 : Int32) * v2) + ((4 : Int32) * v4)) + (3 : Int32)) (hs_ln g74 ((hs_R g65 v0 9) - 1)) = true := by rw [← e75]; exact h71
      have h79 : hs_kd g74 ((hs_R g65 v0 25) - 1) = 100 := by rw [← e75]; exact h72
      have h80 : hs_in ((((32 : Int32) * v2) + ((4 : Int32) * v4)) + (3 : Int32)) (hs_ln g74 ((hs_R g65 v0 25) - 1)) = true := by rw [← e75]; exact h73
      refine lv_iinc (v := (v4 + (1 : Int32))) (lv' := [(4, .int (v4 + (1 : Int32))), (0, .ref (B + v0)), (1, .int v1), (2, .int v2), (5, .int (((32 : Int32) * v2) + ((4 : Int32) * v4)))]) hx hb dX12_rewrite_191 hl (k := 3) rfl (by rfl) (by decide) rfl (fun ls hl => ?_)
      refine lv_goto (tgt := 111) hx hb dX12_rewrite_194 (by decide) ?_
      exact ih _ _ hf _ _ _ hP hS (lv_sub hl [1, 2, 3, 0] rfl)

set_option maxHeartbeats 4000000 in
set_option maxRecDepth 100000 in
theorem wX12_rewrite_19 {p : Program} {l : Launch} {e : Env} {s : State} {m : MethodId} {args : Array Value} {below : List Frame} {meth : Method} {c : Code} {B : Nat} {D : va_G} {E : Nat → ClassId} (hX : hs_cx cX12_rewrite (some .int) 7 RX12 wcX12_rewrite p s m args meth c D E) {Q : State → Prop} {o : Nat × Int32 × Int32 × hs_S} {v0 : Nat} (hex0 : o.1 = 0 → ∀ (H : Heap) (locs : List Loc) (ls : Array Slot), hs_P B D E (o.2.2.2) H → hs_Sx B s.heap H locs → lv_has ls 7 [(0, .ref (B + v0)), (1, .int (o.2.1))] → W p l e rmX12_rewrite s m args below meth c H locs 0 0 Q (F0 m 203 ls [])) (hex1 : o.1 = 1 → ∀ (H : Heap) (locs : List Loc) (ls : Array Slot), hs_P B D E (o.2.2.2) H → hs_Sx B s.heap H locs → lv_has ls 7 [(2, .int (o.2.2.1))] → W p l e rmX12_rewrite s m args below meth c H locs 0 0 Q (F0 m 41 ls [])) : ∀ (n : Nat) (v1 : Int32) (v2 : Int32) (g : hs_S), lX12_rewrite_19 n v0 v1 v2 g = some o → ∀ (H : Heap) (locs : List Loc) (ls : Array Slot), hs_P B D E g H → hs_Sx B s.heap H locs → lv_has ls 7 [(0, .ref (B + v0)), (1, .int v1), (2, .int v2)] → W p l e rmX12_rewrite s m args below meth c H locs 0 0 Q (F0 m 19 ls []) := by
  obtain ⟨hx, hb, hr, hml, hown, hts, hlocks, hK⟩ := id hX
  intro n
  induction n with
  | zero =>
    intro v1 v2 g hf
    cases hf
  | succ n ih =>
    intro v1 v2 g hf H locs ls hP hS hl
    replace hf := (lX12_rewrite_19_s n v0 v1 v2 g).symm.trans hf
    refine lv_iload_n hx hb dX12_rewrite_19 rfl (lv_at hl 2 rfl) ?_
    refine lv_aload_n hx hb dX12_rewrite_20 rfl (lv_at hl 0 rfl) ?_
    obtain ⟨h2, hf⟩ := hs_ck hf
    refine hs_geti (C := RX12) (T := TX12) (N := 48) hx hb hts (fun w h => List.mem_cons_of_mem _ (inlX12 w h)) hown hK.1 hP h2 (by decide) rfl 4 (by decide) (hts _ (List.mem_cons_of_mem _ wq392)) (fun _ h => h) rfl dX12_rewrite_21 ?_
    refine lv_icmp_ge (tgt := 203) hx hb dX12_rewrite_24 (by decide) (fun hc => ?_) (fun hc => ?_)
    · replace hf := hs_t hf hc
      obtain rfl := Option.some.inj hf
      exact hex0 rfl _ _ _ hP hS (lv_sub hl [0, 1] rfl)
    · replace hf := hs_f hf hc
      refine lv_aload_n hx hb dX12_rewrite_27 rfl (lv_at hl 0 rfl) ?_
      refine lv_iload_n hx hb dX12_rewrite_28 rfl (lv_at hl 2 rfl) ?_
      refine lv_iconst (v := 1) hx hb dX12_rewrite_29 (by decide) ?_
      obtain ⟨r4, g3, h5, hf⟩ := hs_bd_some hf
      refine hs_calli (va_runV (As := [.int v2, .int (1 : Int32)]) (rest := []) ⟨hx, hb, hml, hown, hts⟩ (ctX12_lay l B D E v0 v2 (1 : Int32) g _ h5) (cwV 2 hts (hs_gV (fun _ h => List.mem_cons_of_mem _ h) wq596 wq597 wq598 wq5 wq599) rfl rfl rfl (by decide +kernel) ⟨Nat.le_of_ble_eq_true rfl, Nat.le_of_ble_eq_true rfl⟩) (hs_preV (r := (RX12, TX12, 48)) hP hK h2 (by decide) rfl) rfl rfl hl.1 rfl (lv_room (Nat.le_of_ble_eq_true rfl)) dX12_rewrite_30 ⟨(Nat.le_of_ble_eq_true rfl), (Nat.le_of_ble_eq_true rfl)⟩) hS (fun H locs hP hS => ?_)
      refine lv_istore_n (lv' := [(3, .int r4), (0, .ref (B + v0)), (1, .int v1), (2, .int v2)]) hx hb dX12_rewrite_33 rfl hl (by decide) rfl (fun ls hl => ?_)
      refine lv_iload_n hx hb dX12_rewrite_34 rfl (lv_at hl 0 rfl) ?_
      refine lv_sipush (v := 4000) hx hb dX12_rewrite_35 (by decide) ?_
      refine lv_icmp_le (tgt := 46) hx hb dX12_rewrite_38 (by decide) (fun hc => ?_) (fun hc => ?_)
      · replace hf := hs_t hf hc
        refine lv_aload_n hx hb dX12_rewrite_46 rfl (lv_at hl 1 rfl) ?_
        refine lv_iload_n hx hb dX12_rewrite_47 rfl (lv_at hl 3 rfl) ?_
        refine lv_iconst (v := 1) hx hb dX12_rewrite_48 (by decide) ?_
        obtain ⟨h6, hf⟩ := hs_ck hf
        obtain ⟨g7, h9, hf⟩ := hs_bv_some hf
        refine hs_callv (va_runV (As := [.int v2, .int (1 : Int32)]) (rest := []) ⟨hx, hb, hml, hown, hts⟩ (ctX12_put l B D E v0 v2 (1 : Int32) g3 _ h9) (cwV 2 hts (hs_gV (fun _ h => List.mem_cons_of_mem _ h) wq623 wq624 wq625 wq5 wq626) rfl rfl rfl (by decide +kernel) ⟨Nat.le_of_ble_eq_true rfl, Nat.le_of_ble_eq_true rfl⟩) (hs_preV (r := (RX12, TX12, 48)) hP hK h6 (by decide) rfl) rfl rfl hl.1 rfl (lv_room (Nat.le_of_ble_eq_true rfl)) dX12_rewrite_49 ⟨(Nat.le_of_ble_eq_true rfl), (Nat.le_of_ble_eq_true rfl)⟩) hS (fun H locs hP hS => ?_)
        refine lv_aload_n hx hb dX12_rewrite_52 rfl (lv_at hl 1 rfl) ?_
        obtain ⟨h10, hf⟩ := hs_ck hf
        obtain ⟨h11, hf⟩ := hs_ck hf
        refine hs_getr (C := RX12) (T := TX12) (N := 48) hx hb hts (fun w h => List.mem_cons_of_mem _ (inlX12 w h)) hown hK.1 hP h10 (by decide) rfl 26 (by decide) (hts _ (List.mem_cons_of_mem _ wq144)) (fun _ h => h) rfl h11 dX12_rewrite_53 ?_
        refine lv_iload_n hx hb dX12_rewrite_56 rfl (lv_at hl 3 rfl) ?_
        refine lv_aload_n hx hb dX12_rewrite_57 rfl (lv_at hl 1 rfl) ?_
        refine hs_geti (C := RX12) (T := TX12) (N := 48) hx hb hts (fun w h => List.mem_cons_of_mem _ (inlX12 w h)) hown hK.1 hP h10 (by decide) rfl 31 (by decide) (hts _ (List.mem_cons_of_mem _ wq595)) (fun _ h => h) rfl dX12_rewrite_58 ?_
        obtain ⟨h12, hf⟩ := hs_ck hf
        obtain ⟨h13, hf⟩ := hs_ck hf
        refine hs_iast hx hb hK.1 hP hS h12 h13 dX12_rewrite_61 (fun H locs hP hS => ?_)
        refine lv_aload_n hx hb dX12_rewrite_62 rfl (lv_at hl 1 rfl) ?_
        obtain ⟨h14, hf⟩ := hs_ck hf
        refine hs_getr (C := RX12) (T := TX12) (N := 48) hx hb hts (fun w h => List.mem_cons_of_mem _ (inlX12 w h)) hown hK.1 hP h10 (by decide) rfl 24 (by decide) (hts _ (List.mem_cons_of_mem _ wq142)) (fun _ h => h) rfl h14 dX12_rewrite_63 ?_
        refine lv_iload_n hx hb dX12_rewrite_66 rfl (lv_at hl 3 rfl) ?_
        refine lv_iload_n hx hb dX12_rewrite_67 rfl (lv_at hl 0 rfl) ?_
        obtain ⟨h15, hf⟩ := hs_ck hf
        obtain ⟨h16, hf⟩ := hs_ck hf
        refine hs_iast hx hb hK.1 hP hS h15 h16 dX12_rewrite_68 (fun H locs hP hS => ?_)
        obtain ⟨g17, e18, hf⟩ := hs_bv_some hf
        replace e18 := Option.some.inj e18
        rw [e18] at hP
        have h19 : hs_kd g17 v0 = 10 := by rw [← e18]; exact h10
        have h20 : hs_kd g17 ((hs_R g7 v0 26) - 1) = 100 := by rw [← e18]; exact h12
        have h21 : hs_in v2 (hs_ln g17 ((hs_R g7 v0 26) - 1)) = true := by rw [← e18]; exact h13
        have h22 : hs_kd g17 ((hs_R (hs_wI g7 ((hs_R g7 v0 26) - 1) v2.toNatClampNeg (hs_I g7 v0 31)) v0 24) - 1) = 100 := by rw [← e18]; exact h15
        have h23 : hs_in v2 (hs_ln g17 ((hs_R (hs_wI g7 ((hs_R g7 v0 26) - 1) v2.toNatClampNeg (hs_I g7 v0 31)) v0 24) - 1)) = true := by rw [← e18]; exact h16
        refine lv_iload_n hx hb dX12_rewrite_69 rfl (lv_at hl 2 rfl) ?_
        refine lv_iload_n hx hb dX12_rewrite_70 rfl (lv_at hl 0 rfl) ?_
        refine lv_iadd hx hb dX12_rewrite_71 ?_
        refine lv_istore_n (lv' := [(1, .int (v1 + r4)), (3, .int r4), (0, .ref (B + v0)), (2, .int v2)]) hx hb dX12_rewrite_72 rfl hl (by decide) rfl (fun ls hl => ?_)
        refine lv_iconst (v := 0) hx hb dX12_rewrite_73 (by decide) ?_
        refine lv_istore (lv' := [(4, .int (0 : Int32)), (1, .int (v1 + r4)), (3, .int r4), (0, .ref (B + v0)), (2, .int v2)]) hx hb dX12_rewrite_74 hl (by decide) rfl (fun ls hl => ?_)
        obtain ⟨g39, h40, hf⟩ := hs_bv_some hf
        refine wX12_rewrite_76 hX (fun H locs ls hP hS hl => ?_) hs_N _ _ h40 _ _ _ hP hS (lv_sub hl [3, 1, 4, 2, 0] rfl)
        refine lv_iconst (v := 0) hx hb dX12_rewrite_108 (by decide) ?_
        refine lv_istore (lv' := [(4, .int (0 : Int32)), (0, .ref (B + v0)), (1, .int (v1 + r4)), (2, .int v2)]) hx hb dX12_rewrite_109 hl (by decide) rfl (fun ls hl => ?_)
        obtain ⟨g82, h83, hf⟩ := hs_bv_some hf
        refine wX12_rewrite_111 hX (fun H locs ls hP hS hl => ?_) hs_N _ _ h83 _ _ _ hP hS (lv_sub hl [1, 2, 3, 0] rfl)
        refine lv_iinc (v := (v2 + (1 : Int32))) (lv' := [(2, .int (v2 + (1 : Int32))), (0, .ref (B + v0)), (1, .int (v1 + r4))]) hx hb dX12_rewrite_197 hl (k := 2) rfl (by rfl) (by decide) rfl (fun ls hl => ?_)
        refine lv_goto (tgt := 19) hx hb dX12_rewrite_200 (by decide) ?_
        exact ih _ _ _ hf _ _ _ hP hS (lv_sub hl [1, 2, 0] rfl)
      · replace hf := hs_f hf hc
        obtain rfl := Option.some.inj hf
        exact hex1 rfl _ _ _ hP hS (lv_sub hl [3] rfl)

set_option maxHeartbeats 4000000 in
set_option maxRecDepth 100000 in
theorem ctX12_rewrite (l : Launch) (B : Nat) (D : va_G) (E : Nat → ClassId) (v0 : Nat) (g : hs_S) (o : Int32 × hs_S) (hf : fX12_rewrite v0 g = some o) : Met l yX12_rewrite wcX12_rewrite rmX12_rewrite (hs_Pc B D E g [.ref (B + v0)]) (hs_Qi B D E o) (0) (0) (hs_F B) := by
  refine Met.ofW (cc := cX12_rewrite) (maxL := 7) (ret := (some .int)) (by decide) rfl ?_
  intro p e s m args below meth c s₁ Bd hml hv
  obtain ⟨rfl, hP, hK⟩ := hv
  have hx := Bd.exec
  have hb := Bd.bytes
  have hr := Bd.returns
  have hts := atoms_spec (ws := wcX12_rewrite) Bd.pre
  have hown : s.vm.findClass RX12 = some m.cls := findClass_of_methodNamed Bd.named
  have hlocks := Bd.notSynchronized
  have hS : hs_Sx B s.heap s.heap [] := va_S.rf
  have hX : hs_cx cX12_rewrite (some .int) 7 RX12 wcX12_rewrite p s m (List.toArray [.ref (B + v0)]) meth c D E := ⟨hx, hb, hr, hml, hown, hts, hlocks, hK⟩
  have hl := lv_entry ([.ref (B + v0)]) (n := 7) (Nat.le_of_ble_eq_true rfl)
  rw [lg_entry_eq]
  generalize (lg_sl ([.ref (B + v0)]) ++ List.replicate (7 - (lg_sl ([.ref (B + v0)])).length) Slot.unset).toArray = ls at hl ⊢
  have hl : lv_has ls 7 [(0, .ref (B + v0))] := hl
  have hP : hs_P B D E g s.heap := hP
  unfold fX12_rewrite at hf
  refine lv_aload_n hx hb dX12_rewrite_0 rfl (lv_at hl 0 rfl) ?_
  obtain ⟨h1, hf⟩ := hs_ck hf
  refine hs_geti (C := RX12) (T := TX12) (N := 48) hx hb hts (fun w h => List.mem_cons_of_mem _ (inlX12 w h)) hown hK.1 hP h1 (by decide) rfl 3 (by decide) (hts _ (List.mem_cons_of_mem _ wq393)) (fun _ h => h) rfl dX12_rewrite_1 ?_
  refine lv_if_ne (tgt := 10) hx hb dX12_rewrite_4 (by decide) (fun hc => ?_) (fun hc => ?_)
  · replace hf := hs_f hf hc
    refine lv_aload_n hx hb dX12_rewrite_10 rfl (lv_at hl 0 rfl) ?_
    refine lv_iconst (v := 0) hx hb dX12_rewrite_11 (by decide) ?_
    refine hs_puti (C := RX12) (T := TX12) (N := 48) hx hb hts (fun w h => List.mem_cons_of_mem _ (inlX12 w h)) tyX12 tyX12_ok nmX12 hown hK.1 hP hS h1 (by decide) rfl 22 (by decide) (hts _ (List.mem_cons_of_mem _ wq394)) (fun _ h => h) (Or.inl rfl) (hs_01_nar (rfl)) (hs_01_fit (rfl)) rfl dX12_rewrite_12 (fun H locs hP hS => ?_)
    refine lv_iconst (v := 0) hx hb dX12_rewrite_15 (by decide) ?_
    refine lv_istore_n (lv' := [(1, .int (0 : Int32)), (0, .ref (B + v0))]) hx hb dX12_rewrite_16 rfl hl (by decide) rfl (fun ls hl => ?_)
    refine lv_iconst (v := 0) hx hb dX12_rewrite_17 (by decide) ?_
    refine lv_istore_n (lv' := [(2, .int (0 : Int32)), (1, .int (0 : Int32)), (0, .ref (B + v0))]) hx hb dX12_rewrite_18 rfl hl (by decide) rfl (fun ls hl => ?_)
    obtain ⟨k86, x84, x85, g87, h88, hf⟩ := hs_b4_some hf
    refine wX12_rewrite_19 hX (fun hlab H locs ls hP hS hl => ?_) (fun hlab H locs ls hP hS hl => ?_) hs_N _ _ _ h88 _ _ _ hP hS (lv_sub hl [2, 1, 0] rfl)
    · replace hlab : k86 = 0 := hlab
      replace hf := hs_t hf hlab
      refine lv_aload_n hx hb dX12_rewrite_203 rfl (lv_at hl 0 rfl) ?_
      refine lv_iconst (v := 1) hx hb dX12_rewrite_204 (by decide) ?_
      obtain ⟨h89, hf⟩ := hs_ck hf
      refine hs_puti (C := RX12) (T := TX12) (N := 48) hx hb hts (fun w h => List.mem_cons_of_mem _ (inlX12 w h)) tyX12 tyX12_ok nmX12 hown hK.1 hP hS h89 (by decide) rfl 22 (by decide) (hts _ (List.mem_cons_of_mem _ wq394)) (fun _ h => h) (Or.inl rfl) (hs_01_nar (rfl)) (hs_01_fit (rfl)) rfl dX12_rewrite_205 (fun H locs hP hS => ?_)
      refine lv_iload_n hx hb dX12_rewrite_208 rfl (lv_at hl 1 rfl) ?_
      exact hs_iret hx hb hr hlocks rfl hK hP hS hf dX12_rewrite_209
    · replace hlab : k86 = 1 := hlab
      replace hf := hs_f hf (by rw [hlab]; decide)
      refine lv_bipush (v := -10) hx hb dX12_rewrite_41 (by decide) ?_
      refine lv_iload_n hx hb dX12_rewrite_43 rfl (lv_at hl 0 rfl) ?_
      refine lv_isub hx hb dX12_rewrite_44 ?_
      exact hs_iret hx hb hr hlocks rfl hK hP hS hf dX12_rewrite_45
  · replace hf := hs_t hf hc
    refine lv_bipush (v := -2) hx hb dX12_rewrite_7 (by decide) ?_
    exact hs_iret hx hb hr hlocks rfl hK hP hS hf dX12_rewrite_9

theorem dX12_countBlocks_0 : decode cX12_countBlocks 0 = .ok (.aload_n 0, 1) := by decide +kernel
theorem dX12_countBlocks_1 : decode cX12_countBlocks 1 = .ok (.iload_n 1, 1) := by decide +kernel
theorem dX12_countBlocks_2 : decode cX12_countBlocks 2 = .ok (.invokevirtual 207, 3) := by decide +kernel
theorem dX12_countBlocks_5 : decode cX12_countBlocks 5 = .ok (.iconst 0, 1) := by decide +kernel
theorem dX12_countBlocks_6 : decode cX12_countBlocks 6 = .ok (.istore_n 2, 1) := by decide +kernel
theorem dX12_countBlocks_7 : decode cX12_countBlocks 7 = .ok (.iconst 0, 1) := by decide +kernel
theorem dX12_countBlocks_8 : decode cX12_countBlocks 8 = .ok (.istore_n 3, 1) := by decide +kernel
theorem dX12_countBlocks_9 : decode cX12_countBlocks 9 = .ok (.iload_n 3, 1) := by decide +kernel
theorem dX12_countBlocks_10 : decode cX12_countBlocks 10 = .ok (.aload_n 0, 1) := by decide +kernel
theorem dX12_countBlocks_11 : decode cX12_countBlocks 11 = .ok (.getfield 23, 3) := by decide +kernel
theorem dX12_countBlocks_14 : decode cX12_countBlocks 14 = .ok (.iload_n 1, 1) := by decide +kernel
theorem dX12_countBlocks_15 : decode cX12_countBlocks 15 = .ok (.iaload, 1) := by decide +kernel
theorem dX12_countBlocks_16 : decode cX12_countBlocks 16 = .ok (.if_icmp .ge 26, 3) := by decide +kernel
theorem dX12_countBlocks_19 : decode cX12_countBlocks 19 = .ok (.iload_n 2, 1) := by decide +kernel
theorem dX12_countBlocks_20 : decode cX12_countBlocks 20 = .ok (.aload_n 0, 1) := by decide +kernel
theorem dX12_countBlocks_21 : decode cX12_countBlocks 21 = .ok (.getfield 39, 3) := by decide +kernel
theorem dX12_countBlocks_24 : decode cX12_countBlocks 24 = .ok (.iload_n 3, 1) := by decide +kernel
theorem dX12_countBlocks_25 : decode cX12_countBlocks 25 = .ok (.baload, 1) := by decide +kernel
theorem dX12_countBlocks_26 : decode cX12_countBlocks 26 = .ok (.ifCond .eq 7, 3) := by decide +kernel
theorem dX12_countBlocks_29 : decode cX12_countBlocks 29 = .ok (.iconst 1, 1) := by decide +kernel
theorem dX12_countBlocks_30 : decode cX12_countBlocks 30 = .ok (.goto 4, 3) := by decide +kernel
theorem dX12_countBlocks_33 : decode cX12_countBlocks 33 = .ok (.iconst 0, 1) := by decide +kernel
theorem dX12_countBlocks_34 : decode cX12_countBlocks 34 = .ok (.iadd, 1) := by decide +kernel
theorem dX12_countBlocks_35 : decode cX12_countBlocks 35 = .ok (.istore_n 2, 1) := by decide +kernel
theorem dX12_countBlocks_36 : decode cX12_countBlocks 36 = .ok (.iinc 3 1, 3) := by decide +kernel
theorem dX12_countBlocks_39 : decode cX12_countBlocks 39 = .ok (.goto (-30), 3) := by decide +kernel
theorem dX12_countBlocks_42 : decode cX12_countBlocks 42 = .ok (.iload_n 2, 1) := by decide +kernel
theorem dX12_countBlocks_43 : decode cX12_countBlocks 43 = .ok (.ireturn, 1) := by decide +kernel
abbrev wcX12_countBlocks : List Cond := .code yX12_countBlocks cX12_countBlocks 4 (some .int) :: wsL_law
def jX12_countBlocks_34 (rec : Int32 → Int32 → hs_S → Option (Int32 × hs_S)) (v0 : Nat) (v1 : Int32) (v3 : Int32) (s0 : Int32) (s1 : Int32) (g : hs_S) : Option (Int32 × hs_S) :=
  rec (s1 + s0) (v3 + (1 : Int32)) g
def lX12_countBlocks_9 : Nat → Nat → Int32 → Int32 → Int32 → hs_S → Option (Int32 × hs_S)
  | 0, _, _, _, _, _ => none
  | n + 1, v0, v1, v2, v3, g =>
    if hs_kd g v0 = 10 then
    if ¬ (hs_R g v0 7) = 0 then
    if hs_kd g ((hs_R g v0 7) - 1) = 100 then
    if hs_in v1 (hs_ln g ((hs_R g v0 7) - 1)) = true then
    if (hs_I g ((hs_R g v0 7) - 1) v1.toNatClampNeg) ≤ v3 then (
      some (v2, g)
    ) else (
      if ¬ (hs_R g v0 12) = 0 then
      if hs_kd g ((hs_R g v0 12) - 1) = 101 then
      if hs_in v3 (hs_ln g ((hs_R g v0 12) - 1)) = true then
      if (hs_I g ((hs_R g v0 12) - 1) v3.toNatClampNeg) = 0 then (
        jX12_countBlocks_34 (fun y0 y1 g => lX12_countBlocks_9 n v0 v1 y0 y1 g) v0 v1 v3 (0 : Int32) v2 g
      ) else (
        jX12_countBlocks_34 (fun y0 y1 g => lX12_countBlocks_9 n v0 v1 y0 y1 g) v0 v1 v3 (1 : Int32) v2 g
      )
      else none else none else none
    )
    else none else none else none else none
theorem lX12_countBlocks_9_s (n : Nat) (v0 : Nat) (v1 : Int32) (v2 : Int32) (v3 : Int32) (g : hs_S) : lX12_countBlocks_9 (n + 1) v0 v1 v2 v3 g =
    if hs_kd g v0 = 10 then
    if ¬ (hs_R g v0 7) = 0 then
    if hs_kd g ((hs_R g v0 7) - 1) = 100 then
    if hs_in v1 (hs_ln g ((hs_R g v0 7) - 1)) = true then
    if (hs_I g ((hs_R g v0 7) - 1) v1.toNatClampNeg) ≤ v3 then (
      some (v2, g)
    ) else (
      if ¬ (hs_R g v0 12) = 0 then
      if hs_kd g ((hs_R g v0 12) - 1) = 101 then
      if hs_in v3 (hs_ln g ((hs_R g v0 12) - 1)) = true then
      if (hs_I g ((hs_R g v0 12) - 1) v3.toNatClampNeg) = 0 then (
        jX12_countBlocks_34 (fun y0 y1 g => lX12_countBlocks_9 n v0 v1 y0 y1 g) v0 v1 v3 (0 : Int32) v2 g
      ) else (
        jX12_countBlocks_34 (fun y0 y1 g => lX12_countBlocks_9 n v0 v1 y0 y1 g) v0 v1 v3 (1 : Int32) v2 g
      )
      else none else none else none
    )
    else none else none else none else none := rfl
def fX12_countBlocks (v0 : Nat) (v1 : Int32) (g : hs_S) : Option (Int32 × hs_S) :=
  if hs_kd g v0 = 10 then
  hs_bv (fX12_mark v0 v1 g) fun g2 =>
  hs_bd (lX12_countBlocks_9 hs_N v0 v1 (0 : Int32) (0 : Int32) g2) fun x12 g14 =>
  some (x12, g14)
  else none
abbrev rmX12_countBlocks : Room := { frames := 4, cells := 0, slots := 0, locals := 90 }
set_option maxHeartbeats 4000000 in
set_option maxRecDepth 100000 in
theorem wX12_countBlocks_j34 {p : Program} {l : Launch} {e : Env} {s : State} {m : MethodId} {args : Array Value} {below : List Frame} {meth : Method} {c : Code} {B : Nat} {D : va_G} {E : Nat → ClassId} (hX : hs_cx cX12_countBlocks (some .int) 4 RX12 wcX12_countBlocks p s m args meth c D E) {Q : State → Prop} {o : Int32 × hs_S} {rec : Int32 → Int32 → hs_S → Option (Int32 × hs_S)} {v0 : Nat} {v1 : Int32} {v3 : Int32} {s0 : Int32} {s1 : Int32}  (hrec : ∀ (y0 : Int32) (y1 : Int32) (g : hs_S) (H : Heap) (locs : List Loc) (ls : Array Slot), rec y0 y1 g = some o → hs_P B D E g H → hs_Sx B s.heap H locs → lv_has ls 4 [(0, .ref (B + v0)), (1, .int v1), (2, .int y0), (3, .int y1)] → W p l e rmX12_countBlocks s m args below meth c H locs 0 0 Q (F0 m 9 ls [])) (hex0 : ∀ (H : Heap) (locs : List Loc) (ls : Array Slot), hs_P B D E (o.2) H → hs_Sx B s.heap H locs → lv_has ls 4 [(2, .int (o.1))] → W p l e rmX12_countBlocks s m args below meth c H locs 0 0 Q (F0 m 42 ls [])) {g : hs_S} {H : Heap} {locs : List Loc} {ls : Array Slot} (hf : jX12_countBlocks_34 rec v0 v1 v3 s0 s1 g = some o) (hP : hs_P B D E g H) (hS : hs_Sx B s.heap H locs) (hl : lv_has ls 4 [(0, .ref (B + v0)), (1, .int v1), (3, .int v3)]) : W p l e rmX12_countBlocks s m args below meth c H locs 0 0 Q (F0 m 34 ls [.int s0, .int s1]) := by
  obtain ⟨hx, hb, hr, hml, hown, hts, hlocks, hK⟩ := id hX
  unfold jX12_countBlocks_34 at hf
  refine lv_iadd hx hb dX12_countBlocks_34 ?_
  refine lv_istore_n (lv' := [(2, .int (s1 + s0)), (0, .ref (B + v0)), (1, .int v1), (3, .int v3)]) hx hb dX12_countBlocks_35 rfl hl (by decide) rfl (fun ls hl => ?_)
  refine lv_iinc (v := (v3 + (1 : Int32))) (lv' := [(3, .int (v3 + (1 : Int32))), (2, .int (s1 + s0)), (0, .ref (B + v0)), (1, .int v1)]) hx hb dX12_countBlocks_36 hl (k := 3) rfl (by rfl) (by decide) rfl (fun ls hl => ?_)
  refine lv_goto (tgt := 9) hx hb dX12_countBlocks_39 (by decide) ?_
  exact hrec _ _ _ _ _ _ hf hP hS (lv_sub hl [2, 3, 1, 0] rfl)

set_option maxHeartbeats 4000000 in
set_option maxRecDepth 100000 in
theorem wX12_countBlocks_9 {p : Program} {l : Launch} {e : Env} {s : State} {m : MethodId} {args : Array Value} {below : List Frame} {meth : Method} {c : Code} {B : Nat} {D : va_G} {E : Nat → ClassId} (hX : hs_cx cX12_countBlocks (some .int) 4 RX12 wcX12_countBlocks p s m args meth c D E) {Q : State → Prop} {o : Int32 × hs_S} {v0 : Nat} {v1 : Int32} (hex0 : ∀ (H : Heap) (locs : List Loc) (ls : Array Slot), hs_P B D E (o.2) H → hs_Sx B s.heap H locs → lv_has ls 4 [(2, .int (o.1))] → W p l e rmX12_countBlocks s m args below meth c H locs 0 0 Q (F0 m 42 ls [])) : ∀ (n : Nat) (v2 : Int32) (v3 : Int32) (g : hs_S), lX12_countBlocks_9 n v0 v1 v2 v3 g = some o → ∀ (H : Heap) (locs : List Loc) (ls : Array Slot), hs_P B D E g H → hs_Sx B s.heap H locs → lv_has ls 4 [(0, .ref (B + v0)), (1, .int v1), (2, .int v2), (3, .int v3)] → W p l e rmX12_countBlocks s m args below meth c H locs 0 0 Q (F0 m 9 ls []) := by
  obtain ⟨hx, hb, hr, hml, hown, hts, hlocks, hK⟩ := id hX
  intro n
  induction n with
  | zero =>
    intro v2 v3 g hf
    cases hf
  | succ n ih =>
    intro v2 v3 g hf H locs ls hP hS hl
    replace hf := (lX12_countBlocks_9_s n v0 v1 v2 v3 g).symm.trans hf
    refine lv_iload_n hx hb dX12_countBlocks_9 rfl (lv_at hl 3 rfl) ?_
    refine lv_aload_n hx hb dX12_countBlocks_10 rfl (lv_at hl 0 rfl) ?_
    obtain ⟨h5, hf⟩ := hs_ck hf
    obtain ⟨h6, hf⟩ := hs_ck hf
    refine hs_getr (C := RX12) (T := TX12) (N := 48) hx hb hts (fun w h => List.mem_cons_of_mem _ (inlX12 w h)) hown hK.1 hP h5 (by decide) rfl 7 (by decide) (hts _ (List.mem_cons_of_mem _ wq125)) (fun _ h => h) rfl h6 dX12_countBlocks_11 ?_
    refine lv_iload_n hx hb dX12_countBlocks_14 rfl (lv_at hl 1 rfl) ?_
    obtain ⟨h7, hf⟩ := hs_ck hf
    obtain ⟨h8, hf⟩ := hs_ck hf
    refine hs_iald hx hb hK.1 hP h7 h8 dX12_countBlocks_15 ?_
    refine lv_icmp_ge (tgt := 42) hx hb dX12_countBlocks_16 (by decide) (fun hc => ?_) (fun hc => ?_)
    · replace hf := hs_t hf hc
      obtain rfl := Option.some.inj hf
      exact hex0 _ _ _ hP hS (lv_sub hl [2] rfl)
    · replace hf := hs_f hf hc
      refine lv_iload_n hx hb dX12_countBlocks_19 rfl (lv_at hl 2 rfl) ?_
      refine lv_aload_n hx hb dX12_countBlocks_20 rfl (lv_at hl 0 rfl) ?_
      obtain ⟨h9, hf⟩ := hs_ck hf
      refine hs_getr (C := RX12) (T := TX12) (N := 48) hx hb hts (fun w h => List.mem_cons_of_mem _ (inlX12 w h)) hown hK.1 hP h5 (by decide) rfl 12 (by decide) (hts _ (List.mem_cons_of_mem _ wq131)) (fun _ h => h) rfl h9 dX12_countBlocks_21 ?_
      refine lv_iload_n hx hb dX12_countBlocks_24 rfl (lv_at hl 3 rfl) ?_
      obtain ⟨h10, hf⟩ := hs_ck hf
      obtain ⟨h11, hf⟩ := hs_ck hf
      refine hs_zald hx hb hK.1 hP h10 h11 dX12_countBlocks_25 ?_
      refine lv_if_eq (tgt := 33) hx hb dX12_countBlocks_26 (by decide) (fun hc => ?_) (fun hc => ?_)
      · replace hf := hs_t hf hc
        refine lv_iconst (v := 0) hx hb dX12_countBlocks_33 (by decide) ?_
        exact wX12_countBlocks_j34 hX (fun z0 z1 g H locs ls hf hP hS hl => ih z0 z1 g hf H locs ls hP hS hl) hex0 hf hP hS (lv_sub hl [0, 1, 3] rfl)
      · replace hf := hs_f hf hc
        refine lv_iconst (v := 1) hx hb dX12_countBlocks_29 (by decide) ?_
        refine lv_goto (tgt := 34) hx hb dX12_countBlocks_30 (by decide) ?_
        exact wX12_countBlocks_j34 hX (fun z0 z1 g H locs ls hf hP hS hl => ih z0 z1 g hf H locs ls hP hS hl) hex0 hf hP hS (lv_sub hl [0, 1, 3] rfl)

set_option maxHeartbeats 4000000 in
set_option maxRecDepth 100000 in
theorem ctX12_countBlocks (l : Launch) (B : Nat) (D : va_G) (E : Nat → ClassId) (v0 : Nat) (v1 : Int32) (g : hs_S) (o : Int32 × hs_S) (hf : fX12_countBlocks v0 v1 g = some o) : Met l yX12_countBlocks wcX12_countBlocks rmX12_countBlocks (hs_Pc B D E g [.ref (B + v0), .int v1]) (hs_Qi B D E o) (0) (0) (hs_F B) := by
  refine Met.ofW (cc := cX12_countBlocks) (maxL := 4) (ret := (some .int)) (by decide) rfl ?_
  intro p e s m args below meth c s₁ Bd hml hv
  obtain ⟨rfl, hP, hK⟩ := hv
  have hx := Bd.exec
  have hb := Bd.bytes
  have hr := Bd.returns
  have hts := atoms_spec (ws := wcX12_countBlocks) Bd.pre
  have hown : s.vm.findClass RX12 = some m.cls := findClass_of_methodNamed Bd.named
  have hlocks := Bd.notSynchronized
  have hS : hs_Sx B s.heap s.heap [] := va_S.rf
  have hX : hs_cx cX12_countBlocks (some .int) 4 RX12 wcX12_countBlocks p s m (List.toArray [.ref (B + v0), .int v1]) meth c D E := ⟨hx, hb, hr, hml, hown, hts, hlocks, hK⟩
  have hl := lv_entry ([.ref (B + v0), .int v1]) (n := 4) (Nat.le_of_ble_eq_true rfl)
  rw [lg_entry_eq]
  generalize (lg_sl ([.ref (B + v0), .int v1]) ++ List.replicate (4 - (lg_sl ([.ref (B + v0), .int v1])).length) Slot.unset).toArray = ls at hl ⊢
  have hl : lv_has ls 4 [(0, .ref (B + v0)), (1, .int v1)] := hl
  have hP : hs_P B D E g s.heap := hP
  unfold fX12_countBlocks at hf
  refine lv_aload_n hx hb dX12_countBlocks_0 rfl (lv_at hl 0 rfl) ?_
  refine lv_iload_n hx hb dX12_countBlocks_1 rfl (lv_at hl 1 rfl) ?_
  obtain ⟨h1, hf⟩ := hs_ck hf
  obtain ⟨g2, h4, hf⟩ := hs_bv_some hf
  refine hs_callv (va_runV (As := [.int v1]) (rest := []) ⟨hx, hb, hml, hown, hts⟩ (ctX12_mark l B D E v0 v1 g _ h4) (cwV 1 hts (hs_gV (fun _ h => List.mem_cons_of_mem _ h) wq600 wq601 wq602 wq5 wq603) rfl rfl rfl (by decide +kernel) ⟨Nat.le_of_ble_eq_true rfl, Nat.le_of_ble_eq_true rfl⟩) (hs_preV (r := (RX12, TX12, 48)) hP hK h1 (by decide) rfl) rfl rfl hl.1 rfl (lv_room (Nat.le_of_ble_eq_true rfl)) dX12_countBlocks_2 ⟨(Nat.le_of_ble_eq_true rfl), (Nat.le_of_ble_eq_true rfl)⟩) hS (fun H locs hP hS => ?_)
  refine lv_iconst (v := 0) hx hb dX12_countBlocks_5 (by decide) ?_
  refine lv_istore_n (lv' := [(2, .int (0 : Int32)), (0, .ref (B + v0)), (1, .int v1)]) hx hb dX12_countBlocks_6 rfl hl (by decide) rfl (fun ls hl => ?_)
  refine lv_iconst (v := 0) hx hb dX12_countBlocks_7 (by decide) ?_
  refine lv_istore_n (lv' := [(3, .int (0 : Int32)), (2, .int (0 : Int32)), (0, .ref (B + v0)), (1, .int v1)]) hx hb dX12_countBlocks_8 rfl hl (by decide) rfl (fun ls hl => ?_)
  obtain ⟨x12, g14, h15, hf⟩ := hs_bd_some hf
  refine wX12_countBlocks_9 hX (fun H locs ls hP hS hl => ?_) hs_N _ _ _ h15 _ _ _ hP hS (lv_sub hl [2, 3, 1, 0] rfl)
  refine lv_iload_n hx hb dX12_countBlocks_42 rfl (lv_at hl 0 rfl) ?_
  exact hs_iret hx hb hr hlocks rfl hK hP hS hf dX12_countBlocks_43

theorem dX12_longJumps_0 : decode cX12_longJumps 0 = .ok (.iconst 0, 1) := by decide +kernel
theorem dX12_longJumps_1 : decode cX12_longJumps 1 = .ok (.istore_n 3, 1) := by decide +kernel
theorem dX12_longJumps_2 : decode cX12_longJumps 2 = .ok (.iconst 0, 1) := by decide +kernel
theorem dX12_longJumps_3 : decode cX12_longJumps 3 = .ok (.istore 4, 2) := by decide +kernel
theorem dX12_longJumps_5 : decode cX12_longJumps 5 = .ok (.iload_n 2, 1) := by decide +kernel
theorem dX12_longJumps_6 : decode cX12_longJumps 6 = .ok (.ifCond .eq 12, 3) := by decide +kernel
theorem dX12_longJumps_9 : decode cX12_longJumps 9 = .ok (.aload_n 0, 1) := by decide +kernel
theorem dX12_longJumps_10 : decode cX12_longJumps 10 = .ok (.getfield 72, 3) := by decide +kernel
theorem dX12_longJumps_13 : decode cX12_longJumps 13 = .ok (.iload_n 1, 1) := by decide +kernel
theorem dX12_longJumps_14 : decode cX12_longJumps 14 = .ok (.iaload, 1) := by decide +kernel
theorem dX12_longJumps_15 : decode cX12_longJumps 15 = .ok (.goto 9, 3) := by decide +kernel
theorem dX12_longJumps_18 : decode cX12_longJumps 18 = .ok (.aload_n 0, 1) := by decide +kernel
theorem dX12_longJumps_19 : decode cX12_longJumps 19 = .ok (.getfield 23, 3) := by decide +kernel
theorem dX12_longJumps_22 : decode cX12_longJumps 22 = .ok (.iload_n 1, 1) := by decide +kernel
theorem dX12_longJumps_23 : decode cX12_longJumps 23 = .ok (.iaload, 1) := by decide +kernel
theorem dX12_longJumps_24 : decode cX12_longJumps 24 = .ok (.istore 5, 2) := by decide +kernel
theorem dX12_longJumps_26 : decode cX12_longJumps 26 = .ok (.iload 4, 2) := by decide +kernel
theorem dX12_longJumps_28 : decode cX12_longJumps 28 = .ok (.iload 5, 2) := by decide +kernel
theorem dX12_longJumps_30 : decode cX12_longJumps 30 = .ok (.if_icmp .ge 61, 3) := by decide +kernel
theorem dX12_longJumps_33 : decode cX12_longJumps 33 = .ok (.iload_n 2, 1) := by decide +kernel
theorem dX12_longJumps_34 : decode cX12_longJumps 34 = .ok (.ifCond .eq 19, 3) := by decide +kernel
theorem dX12_longJumps_37 : decode cX12_longJumps 37 = .ok (.aload_n 0, 1) := by decide +kernel
theorem dX12_longJumps_38 : decode cX12_longJumps 38 = .ok (.getfield 69, 3) := by decide +kernel
theorem dX12_longJumps_41 : decode cX12_longJumps 41 = .ok (.sipush 4001, 3) := by decide +kernel
theorem dX12_longJumps_44 : decode cX12_longJumps 44 = .ok (.iload_n 1, 1) := by decide +kernel
theorem dX12_longJumps_45 : decode cX12_longJumps 45 = .ok (.imul, 1) := by decide +kernel
theorem dX12_longJumps_46 : decode cX12_longJumps 46 = .ok (.iload 4, 2) := by decide +kernel
theorem dX12_longJumps_48 : decode cX12_longJumps 48 = .ok (.iadd, 1) := by decide +kernel
theorem dX12_longJumps_49 : decode cX12_longJumps 49 = .ok (.iaload, 1) := by decide +kernel
theorem dX12_longJumps_50 : decode cX12_longJumps 50 = .ok (.goto 10, 3) := by decide +kernel
theorem dX12_longJumps_53 : decode cX12_longJumps 53 = .ok (.aload_n 0, 1) := by decide +kernel
theorem dX12_longJumps_54 : decode cX12_longJumps 54 = .ok (.iload_n 1, 1) := by decide +kernel
theorem dX12_longJumps_55 : decode cX12_longJumps 55 = .ok (.iload 4, 2) := by decide +kernel
theorem dX12_longJumps_57 : decode cX12_longJumps 57 = .ok (.invokevirtual 201, 3) := by decide +kernel
theorem dX12_longJumps_60 : decode cX12_longJumps 60 = .ok (.istore 6, 2) := by decide +kernel
theorem dX12_longJumps_62 : decode cX12_longJumps 62 = .ok (.iload_n 3, 1) := by decide +kernel
theorem dX12_longJumps_63 : decode cX12_longJumps 63 = .ok (.iload 6, 2) := by decide +kernel
theorem dX12_longJumps_65 : decode cX12_longJumps 65 = .ok (.sipush 168, 3) := by decide +kernel
theorem dX12_longJumps_68 : decode cX12_longJumps 68 = .ok (.if_icmp .ne 7, 3) := by decide +kernel
theorem dX12_longJumps_71 : decode cX12_longJumps 71 = .ok (.iconst 1, 1) := by decide +kernel
theorem dX12_longJumps_72 : decode cX12_longJumps 72 = .ok (.goto 4, 3) := by decide +kernel
theorem dX12_longJumps_75 : decode cX12_longJumps 75 = .ok (.iconst 0, 1) := by decide +kernel
theorem dX12_longJumps_76 : decode cX12_longJumps 76 = .ok (.iadd, 1) := by decide +kernel
theorem dX12_longJumps_77 : decode cX12_longJumps 77 = .ok (.istore_n 3, 1) := by decide +kernel
theorem dX12_longJumps_78 : decode cX12_longJumps 78 = .ok (.iload 4, 2) := by decide +kernel
theorem dX12_longJumps_80 : decode cX12_longJumps 80 = .ok (.iload 6, 2) := by decide +kernel
theorem dX12_longJumps_82 : decode cX12_longJumps 82 = .ok (.invokestatic 120, 3) := by decide +kernel
theorem dX12_longJumps_85 : decode cX12_longJumps 85 = .ok (.iadd, 1) := by decide +kernel
theorem dX12_longJumps_86 : decode cX12_longJumps 86 = .ok (.istore 4, 2) := by decide +kernel
theorem dX12_longJumps_88 : decode cX12_longJumps 88 = .ok (.goto (-62), 3) := by decide +kernel
theorem dX12_longJumps_91 : decode cX12_longJumps 91 = .ok (.iload_n 3, 1) := by decide +kernel
theorem dX12_longJumps_92 : decode cX12_longJumps 92 = .ok (.ireturn, 1) := by decide +kernel
abbrev wcX12_longJumps : List Cond := .code yX12_longJumps cX12_longJumps 7 (some .int) :: wsL_law
def jX12_longJumps_76 (rec : Int32 → Int32 → hs_S → Option (Int32 × hs_S)) (v0 : Nat) (v1 : Int32) (v2 : Int32) (v4 : Int32) (v5 : Int32) (v6 : Int32) (s0 : Int32) (s1 : Int32) (g : hs_S) : Option (Int32 × hs_S) :=
  hs_bd (fX12_size v6 g) fun r10 g9 =>
  rec (s1 + s0) (v4 + r10) g9
def jX12_longJumps_60 (rec : Int32 → Int32 → hs_S → Option (Int32 × hs_S)) (v0 : Nat) (v1 : Int32) (v2 : Int32) (v3 : Int32) (v4 : Int32) (v5 : Int32) (s0 : Int32) (g : hs_S) : Option (Int32 × hs_S) :=
  if s0 = (168 : Int32) then (
    jX12_longJumps_76 rec v0 v1 v2 v4 v5 s0 (1 : Int32) v3 g
  ) else (
    jX12_longJumps_76 rec v0 v1 v2 v4 v5 s0 (0 : Int32) v3 g
  )
def lX12_longJumps_26 : Nat → Nat → Int32 → Int32 → Int32 → Int32 → Int32 → hs_S → Option (Int32 × hs_S)
  | 0, _, _, _, _, _, _, _ => none
  | n + 1, v0, v1, v2, v3, v4, v5, g =>
    if v5 ≤ v4 then (
      some (v3, g)
    ) else (
      if v2 = 0 then (
        if hs_kd g v0 = 10 then
        hs_bd (fX12_kindAt v0 v1 v4 g) fun r7 g6 =>
        jX12_longJumps_60 (fun y0 y1 g => lX12_longJumps_26 n v0 v1 v2 y0 y1 v5 g) v0 v1 v2 v3 v4 v5 r7 g6
        else none
      ) else (
        if hs_kd g v0 = 10 then
        if ¬ (hs_R g v0 23) = 0 then
        if hs_kd g ((hs_R g v0 23) - 1) = 100 then
        if hs_in (((4001 : Int32) * v1) + v4) (hs_ln g ((hs_R g v0 23) - 1)) = true then
        jX12_longJumps_60 (fun y0 y1 g => lX12_longJumps_26 n v0 v1 v2 y0 y1 v5 g) v0 v1 v2 v3 v4 v5 (hs_I g ((hs_R g v0 23) - 1) (((4001 : Int32) * v1) + v4).toNatClampNeg) g
        else none else none else none else none
      )
    )
theorem lX12_longJumps_26_s (n : Nat) (v0 : Nat) (v1 : Int32) (v2 : Int32) (v3 : Int32) (v4 : Int32) (v5 : Int32) (g : hs_S) : lX12_longJumps_26 (n + 1) v0 v1 v2 v3 v4 v5 g =
    if v5 ≤ v4 then (
      some (v3, g)
    ) else (
      if v2 = 0 then (
        if hs_kd g v0 = 10 then
        hs_bd (fX12_kindAt v0 v1 v4 g) fun r7 g6 =>
        jX12_longJumps_60 (fun y0 y1 g => lX12_longJumps_26 n v0 v1 v2 y0 y1 v5 g) v0 v1 v2 v3 v4 v5 r7 g6
        else none
      ) else (
        if hs_kd g v0 = 10 then
        if ¬ (hs_R g v0 23) = 0 then
        if hs_kd g ((hs_R g v0 23) - 1) = 100 then
        if hs_in (((4001 : Int32) * v1) + v4) (hs_ln g ((hs_R g v0 23) - 1)) = true then
        jX12_longJumps_60 (fun y0 y1 g => lX12_longJumps_26 n v0 v1 v2 y0 y1 v5 g) v0 v1 v2 v3 v4 v5 (hs_I g ((hs_R g v0 23) - 1) (((4001 : Int32) * v1) + v4).toNatClampNeg) g
        else none else none else none else none
      )
    ) := rfl
def jX12_longJumps_24 (v0 : Nat) (v1 : Int32) (v2 : Int32) (v3 : Int32) (v4 : Int32) (s0 : Int32) (g : hs_S) : Option (Int32 × hs_S) :=
  hs_bd (lX12_longJumps_26 hs_N v0 v1 v2 v3 v4 s0 g) fun x16 g18 =>
  some (x16, g18)
def fX12_longJumps (v0 : Nat) (v1 : Int32) (v2 : Int32) (g : hs_S) : Option (Int32 × hs_S) :=
  if v2 = 0 then (
    if hs_kd g v0 = 10 then
    if ¬ (hs_R g v0 7) = 0 then
    if hs_kd g ((hs_R g v0 7) - 1) = 100 then
    if hs_in v1 (hs_ln g ((hs_R g v0 7) - 1)) = true then
    jX12_longJumps_24 v0 v1 v2 (0 : Int32) (0 : Int32) (hs_I g ((hs_R g v0 7) - 1) v1.toNatClampNeg) g
    else none else none else none else none
  ) else (
    if hs_kd g v0 = 10 then
    if ¬ (hs_R g v0 24) = 0 then
    if hs_kd g ((hs_R g v0 24) - 1) = 100 then
    if hs_in v1 (hs_ln g ((hs_R g v0 24) - 1)) = true then
    jX12_longJumps_24 v0 v1 v2 (0 : Int32) (0 : Int32) (hs_I g ((hs_R g v0 24) - 1) v1.toNatClampNeg) g
    else none else none else none else none
  )
abbrev rmX12_longJumps : Room := { frames := 1, cells := 0, slots := 0, locals := 22 }
set_option maxHeartbeats 4000000 in
set_option maxRecDepth 100000 in
theorem wX12_longJumps_j76 {p : Program} {l : Launch} {e : Env} {s : State} {m : MethodId} {args : Array Value} {below : List Frame} {meth : Method} {c : Code} {B : Nat} {D : va_G} {E : Nat → ClassId} (hX : hs_cx cX12_longJumps (some .int) 7 RX12 wcX12_longJumps p s m args meth c D E) {Q : State → Prop} {o : Int32 × hs_S} {rec : Int32 → Int32 → hs_S → Option (Int32 × hs_S)} {v0 : Nat} {v1 : Int32} {v2 : Int32} {v4 : Int32} {v5 : Int32} {v6 : Int32} {s0 : Int32} {s1 : Int32}  (hrec : ∀ (y0 : Int32) (y1 : Int32) (g : hs_S) (H : Heap) (locs : List Loc) (ls : Array Slot), rec y0 y1 g = some o → hs_P B D E g H → hs_Sx B s.heap H locs → lv_has ls 7 [(0, .ref (B + v0)), (1, .int v1), (2, .int v2), (3, .int y0), (4, .int y1), (5, .int v5)] → W p l e rmX12_longJumps s m args below meth c H locs 0 0 Q (F0 m 26 ls [])) (hex0 : ∀ (H : Heap) (locs : List Loc) (ls : Array Slot), hs_P B D E (o.2) H → hs_Sx B s.heap H locs → lv_has ls 7 [(3, .int (o.1))] → W p l e rmX12_longJumps s m args below meth c H locs 0 0 Q (F0 m 91 ls [])) {g : hs_S} {H : Heap} {locs : List Loc} {ls : Array Slot} (hf : jX12_longJumps_76 rec v0 v1 v2 v4 v5 v6 s0 s1 g = some o) (hP : hs_P B D E g H) (hS : hs_Sx B s.heap H locs) (hl : lv_has ls 7 [(0, .ref (B + v0)), (1, .int v1), (2, .int v2), (4, .int v4), (5, .int v5), (6, .int v6)]) : W p l e rmX12_longJumps s m args below meth c H locs 0 0 Q (F0 m 76 ls [.int s0, .int s1]) := by
  obtain ⟨hx, hb, hr, hml, hown, hts, hlocks, hK⟩ := id hX
  unfold jX12_longJumps_76 at hf
  refine lv_iadd hx hb dX12_longJumps_76 ?_
  refine lv_istore_n (lv' := [(3, .int (s1 + s0)), (0, .ref (B + v0)), (1, .int v1), (2, .int v2), (4, .int v4), (5, .int v5), (6, .int v6)]) hx hb dX12_longJumps_77 rfl hl (by decide) rfl (fun ls hl => ?_)
  refine lv_iload hx hb dX12_longJumps_78 (lv_at hl 4 rfl) ?_
  refine lv_iload hx hb dX12_longJumps_80 (lv_at hl 6 rfl) ?_
  obtain ⟨r10, g9, h11, hf⟩ := hs_bd_some hf
  refine hs_calli (va_runS (As := [.int v6]) (rest := [.int v4]) ⟨hx, hb, hml, hown, hts⟩ (ctX12_size l B D E v6 g _ h11) (va_cwS 1 hts (hs_gS (fun _ h => List.mem_cons_of_mem _ h) wq423 wq424 wq5 wq425) rfl rfl rfl (by decide +kernel) ⟨Nat.le_of_ble_eq_true rfl, Nat.le_of_ble_eq_true rfl⟩) (hs_pre hP hK) rfl rfl hl.1 rfl (lv_room (Nat.le_of_ble_eq_true rfl)) dX12_longJumps_82 ⟨(Nat.le_of_ble_eq_true rfl), (Nat.le_of_ble_eq_true rfl)⟩) hS (fun H locs hP hS => ?_)
  refine lv_iadd hx hb dX12_longJumps_85 ?_
  refine lv_istore (lv' := [(4, .int (v4 + r10)), (3, .int (s1 + s0)), (0, .ref (B + v0)), (1, .int v1), (2, .int v2), (5, .int v5), (6, .int v6)]) hx hb dX12_longJumps_86 hl (by decide) rfl (fun ls hl => ?_)
  refine lv_goto (tgt := 26) hx hb dX12_longJumps_88 (by decide) ?_
  exact hrec _ _ _ _ _ _ hf hP hS (lv_sub hl [2, 3, 4, 1, 0, 5] rfl)

set_option maxHeartbeats 4000000 in
set_option maxRecDepth 100000 in
theorem wX12_longJumps_j60 {p : Program} {l : Launch} {e : Env} {s : State} {m : MethodId} {args : Array Value} {below : List Frame} {meth : Method} {c : Code} {B : Nat} {D : va_G} {E : Nat → ClassId} (hX : hs_cx cX12_longJumps (some .int) 7 RX12 wcX12_longJumps p s m args meth c D E) {Q : State → Prop} {o : Int32 × hs_S} {rec : Int32 → Int32 → hs_S → Option (Int32 × hs_S)} {v0 : Nat} {v1 : Int32} {v2 : Int32} {v3 : Int32} {v4 : Int32} {v5 : Int32} {s0 : Int32}  (hrec : ∀ (y0 : Int32) (y1 : Int32) (g : hs_S) (H : Heap) (locs : List Loc) (ls : Array Slot), rec y0 y1 g = some o → hs_P B D E g H → hs_Sx B s.heap H locs → lv_has ls 7 [(0, .ref (B + v0)), (1, .int v1), (2, .int v2), (3, .int y0), (4, .int y1), (5, .int v5)] → W p l e rmX12_longJumps s m args below meth c H locs 0 0 Q (F0 m 26 ls [])) (hex0 : ∀ (H : Heap) (locs : List Loc) (ls : Array Slot), hs_P B D E (o.2) H → hs_Sx B s.heap H locs → lv_has ls 7 [(3, .int (o.1))] → W p l e rmX12_longJumps s m args below meth c H locs 0 0 Q (F0 m 91 ls [])) {g : hs_S} {H : Heap} {locs : List Loc} {ls : Array Slot} (hf : jX12_longJumps_60 rec v0 v1 v2 v3 v4 v5 s0 g = some o) (hP : hs_P B D E g H) (hS : hs_Sx B s.heap H locs) (hl : lv_has ls 7 [(0, .ref (B + v0)), (1, .int v1), (2, .int v2), (3, .int v3), (4, .int v4), (5, .int v5)]) : W p l e rmX12_longJumps s m args below meth c H locs 0 0 Q (F0 m 60 ls [.int s0]) := by
  obtain ⟨hx, hb, hr, hml, hown, hts, hlocks, hK⟩ := id hX
  unfold jX12_longJumps_60 at hf
  refine lv_istore (lv' := [(6, .int s0), (0, .ref (B + v0)), (1, .int v1), (2, .int v2), (3, .int v3), (4, .int v4), (5, .int v5)]) hx hb dX12_longJumps_60 hl (by decide) rfl (fun ls hl => ?_)
  refine lv_iload_n hx hb dX12_longJumps_62 rfl (lv_at hl 4 rfl) ?_
  refine lv_iload hx hb dX12_longJumps_63 (lv_at hl 0 rfl) ?_
  refine lv_sipush (v := 168) hx hb dX12_longJumps_65 (by decide) ?_
  refine lv_icmp_ne (tgt := 75) hx hb dX12_longJumps_68 (by decide) (fun hc => ?_) (fun hc => ?_)
  · replace hf := hs_f hf hc
    refine lv_iconst (v := 0) hx hb dX12_longJumps_75 (by decide) ?_
    exact wX12_longJumps_j76 hX hrec hex0 hf hP hS (lv_sub hl [1, 2, 3, 5, 6, 0] rfl)
  · replace hf := hs_t hf hc
    refine lv_iconst (v := 1) hx hb dX12_longJumps_71 (by decide) ?_
    refine lv_goto (tgt := 76) hx hb dX12_longJumps_72 (by decide) ?_
    exact wX12_longJumps_j76 hX hrec hex0 hf hP hS (lv_sub hl [1, 2, 3, 5, 6, 0] rfl)

set_option maxHeartbeats 4000000 in
set_option maxRecDepth 100000 in
theorem wX12_longJumps_26 {p : Program} {l : Launch} {e : Env} {s : State} {m : MethodId} {args : Array Value} {below : List Frame} {meth : Method} {c : Code} {B : Nat} {D : va_G} {E : Nat → ClassId} (hX : hs_cx cX12_longJumps (some .int) 7 RX12 wcX12_longJumps p s m args meth c D E) {Q : State → Prop} {o : Int32 × hs_S} {v0 : Nat} {v1 : Int32} {v2 : Int32} {v5 : Int32} (hex0 : ∀ (H : Heap) (locs : List Loc) (ls : Array Slot), hs_P B D E (o.2) H → hs_Sx B s.heap H locs → lv_has ls 7 [(3, .int (o.1))] → W p l e rmX12_longJumps s m args below meth c H locs 0 0 Q (F0 m 91 ls [])) : ∀ (n : Nat) (v3 : Int32) (v4 : Int32) (g : hs_S), lX12_longJumps_26 n v0 v1 v2 v3 v4 v5 g = some o → ∀ (H : Heap) (locs : List Loc) (ls : Array Slot), hs_P B D E g H → hs_Sx B s.heap H locs → lv_has ls 7 [(0, .ref (B + v0)), (1, .int v1), (2, .int v2), (3, .int v3), (4, .int v4), (5, .int v5)] → W p l e rmX12_longJumps s m args below meth c H locs 0 0 Q (F0 m 26 ls []) := by
  obtain ⟨hx, hb, hr, hml, hown, hts, hlocks, hK⟩ := id hX
  intro n
  induction n with
  | zero =>
    intro v3 v4 g hf
    cases hf
  | succ n ih =>
    intro v3 v4 g hf H locs ls hP hS hl
    replace hf := (lX12_longJumps_26_s n v0 v1 v2 v3 v4 v5 g).symm.trans hf
    refine lv_iload hx hb dX12_longJumps_26 (lv_at hl 4 rfl) ?_
    refine lv_iload hx hb dX12_longJumps_28 (lv_at hl 5 rfl) ?_
    refine lv_icmp_ge (tgt := 91) hx hb dX12_longJumps_30 (by decide) (fun hc => ?_) (fun hc => ?_)
    · replace hf := hs_t hf hc
      obtain rfl := Option.some.inj hf
      exact hex0 _ _ _ hP hS (lv_sub hl [3] rfl)
    · replace hf := hs_f hf hc
      refine lv_iload_n hx hb dX12_longJumps_33 rfl (lv_at hl 2 rfl) ?_
      refine lv_if_eq (tgt := 53) hx hb dX12_longJumps_34 (by decide) (fun hc => ?_) (fun hc => ?_)
      · replace hf := hs_t hf hc
        refine lv_aload_n hx hb dX12_longJumps_53 rfl (lv_at hl 0 rfl) ?_
        refine lv_iload_n hx hb dX12_longJumps_54 rfl (lv_at hl 1 rfl) ?_
        refine lv_iload hx hb dX12_longJumps_55 (lv_at hl 4 rfl) ?_
        obtain ⟨h5, hf⟩ := hs_ck hf
        obtain ⟨r7, g6, h8, hf⟩ := hs_bd_some hf
        refine hs_calli (va_runV (As := [.int v1, .int v4]) (rest := []) ⟨hx, hb, hml, hown, hts⟩ (ctX12_kindAt l B D E v0 v1 v4 g _ h8) (cwV 2 hts (hs_gV (fun _ h => List.mem_cons_of_mem _ h) wq604 wq605 wq606 wq5 wq607) rfl rfl rfl (by decide +kernel) ⟨Nat.le_of_ble_eq_true rfl, Nat.le_of_ble_eq_true rfl⟩) (hs_preV (r := (RX12, TX12, 48)) hP hK h5 (by decide) rfl) rfl rfl hl.1 rfl (lv_room (Nat.le_of_ble_eq_true rfl)) dX12_longJumps_57 ⟨(Nat.le_of_ble_eq_true rfl), (Nat.le_of_ble_eq_true rfl)⟩) hS (fun H locs hP hS => ?_)
        exact wX12_longJumps_j60 hX (fun z0 z1 g H locs ls hf hP hS hl => ih z0 z1 g hf H locs ls hP hS hl) hex0 hf hP hS (lv_sub hl [0, 1, 2, 3, 4, 5] rfl)
      · replace hf := hs_f hf hc
        refine lv_aload_n hx hb dX12_longJumps_37 rfl (lv_at hl 0 rfl) ?_
        obtain ⟨h12, hf⟩ := hs_ck hf
        obtain ⟨h13, hf⟩ := hs_ck hf
        refine hs_getr (C := RX12) (T := TX12) (N := 48) hx hb hts (fun w h => List.mem_cons_of_mem _ (inlX12 w h)) hown hK.1 hP h12 (by decide) rfl 23 (by decide) (hts _ (List.mem_cons_of_mem _ wq141)) (fun _ h => h) rfl h13 dX12_longJumps_38 ?_
        refine lv_sipush (v := 4001) hx hb dX12_longJumps_41 (by decide) ?_
        refine lv_iload_n hx hb dX12_longJumps_44 rfl (lv_at hl 1 rfl) ?_
        refine lv_imul hx hb dX12_longJumps_45 ?_
        refine lv_iload hx hb dX12_longJumps_46 (lv_at hl 4 rfl) ?_
        refine lv_iadd hx hb dX12_longJumps_48 ?_
        obtain ⟨h14, hf⟩ := hs_ck hf
        obtain ⟨h15, hf⟩ := hs_ck hf
        refine hs_iald hx hb hK.1 hP h14 h15 dX12_longJumps_49 ?_
        refine lv_goto (tgt := 60) hx hb dX12_longJumps_50 (by decide) ?_
        exact wX12_longJumps_j60 hX (fun z0 z1 g H locs ls hf hP hS hl => ih z0 z1 g hf H locs ls hP hS hl) hex0 hf hP hS (lv_sub hl [0, 1, 2, 3, 4, 5] rfl)

set_option maxHeartbeats 4000000 in
set_option maxRecDepth 100000 in
theorem wX12_longJumps_j24 {p : Program} {l : Launch} {e : Env} {s : State} {m : MethodId} {args : Array Value} {below : List Frame} {meth : Method} {c : Code} {B : Nat} {D : va_G} {E : Nat → ClassId} (hX : hs_cx cX12_longJumps (some .int) 7 RX12 wcX12_longJumps p s m args meth c D E) {o : Int32 × hs_S}  {v0 : Nat} {v1 : Int32} {v2 : Int32} {v3 : Int32} {v4 : Int32} {s0 : Int32}   {g : hs_S} {H : Heap} {locs : List Loc} {ls : Array Slot} (hf : jX12_longJumps_24 v0 v1 v2 v3 v4 s0 g = some o) (hP : hs_P B D E g H) (hS : hs_Sx B s.heap H locs) (hl : lv_has ls 7 [(0, .ref (B + v0)), (1, .int v1), (2, .int v2), (3, .int v3), (4, .int v4)]) : W p l e rmX12_longJumps s m args below meth c H locs 0 0 (MQ below (hs_Qi B D E o) args s 0 0 (hs_F B)) (F0 m 24 ls [.int s0]) := by
  obtain ⟨hx, hb, hr, hml, hown, hts, hlocks, hK⟩ := id hX
  unfold jX12_longJumps_24 at hf
  refine lv_istore (lv' := [(5, .int s0), (0, .ref (B + v0)), (1, .int v1), (2, .int v2), (3, .int v3), (4, .int v4)]) hx hb dX12_longJumps_24 hl (by decide) rfl (fun ls hl => ?_)
  obtain ⟨x16, g18, h19, hf⟩ := hs_bd_some hf
  refine wX12_longJumps_26 hX (fun H locs ls hP hS hl => ?_) hs_N _ _ _ h19 _ _ _ hP hS (lv_sub hl [1, 2, 3, 4, 5, 0] rfl)
  refine lv_iload_n hx hb dX12_longJumps_91 rfl (lv_at hl 0 rfl) ?_
  exact hs_iret hx hb hr hlocks rfl hK hP hS hf dX12_longJumps_92

set_option maxHeartbeats 4000000 in
set_option maxRecDepth 100000 in
theorem ctX12_longJumps (l : Launch) (B : Nat) (D : va_G) (E : Nat → ClassId) (v0 : Nat) (v1 : Int32) (v2 : Int32) (g : hs_S) (o : Int32 × hs_S) (hf : fX12_longJumps v0 v1 v2 g = some o) : Met l yX12_longJumps wcX12_longJumps rmX12_longJumps (hs_Pc B D E g [.ref (B + v0), .int v1, .int v2]) (hs_Qi B D E o) (0) (0) (hs_F B) := by
  refine Met.ofW (cc := cX12_longJumps) (maxL := 7) (ret := (some .int)) (by decide) rfl ?_
  intro p e s m args below meth c s₁ Bd hml hv
  obtain ⟨rfl, hP, hK⟩ := hv
  have hx := Bd.exec
  have hb := Bd.bytes
  have hr := Bd.returns
  have hts := atoms_spec (ws := wcX12_longJumps) Bd.pre
  have hown : s.vm.findClass RX12 = some m.cls := findClass_of_methodNamed Bd.named
  have hlocks := Bd.notSynchronized
  have hS : hs_Sx B s.heap s.heap [] := va_S.rf
  have hX : hs_cx cX12_longJumps (some .int) 7 RX12 wcX12_longJumps p s m (List.toArray [.ref (B + v0), .int v1, .int v2]) meth c D E := ⟨hx, hb, hr, hml, hown, hts, hlocks, hK⟩
  have hl := lv_entry ([.ref (B + v0), .int v1, .int v2]) (n := 7) (Nat.le_of_ble_eq_true rfl)
  rw [lg_entry_eq]
  generalize (lg_sl ([.ref (B + v0), .int v1, .int v2]) ++ List.replicate (7 - (lg_sl ([.ref (B + v0), .int v1, .int v2])).length) Slot.unset).toArray = ls at hl ⊢
  have hl : lv_has ls 7 [(0, .ref (B + v0)), (1, .int v1), (2, .int v2)] := hl
  have hP : hs_P B D E g s.heap := hP
  unfold fX12_longJumps at hf
  refine lv_iconst (v := 0) hx hb dX12_longJumps_0 (by decide) ?_
  refine lv_istore_n (lv' := [(3, .int (0 : Int32)), (0, .ref (B + v0)), (1, .int v1), (2, .int v2)]) hx hb dX12_longJumps_1 rfl hl (by decide) rfl (fun ls hl => ?_)
  refine lv_iconst (v := 0) hx hb dX12_longJumps_2 (by decide) ?_
  refine lv_istore (lv' := [(4, .int (0 : Int32)), (3, .int (0 : Int32)), (0, .ref (B + v0)), (1, .int v1), (2, .int v2)]) hx hb dX12_longJumps_3 hl (by decide) rfl (fun ls hl => ?_)
  refine lv_iload_n hx hb dX12_longJumps_5 rfl (lv_at hl 4 rfl) ?_
  refine lv_if_eq (tgt := 18) hx hb dX12_longJumps_6 (by decide) (fun hc => ?_) (fun hc => ?_)
  · replace hf := hs_t hf hc
    refine lv_aload_n hx hb dX12_longJumps_18 rfl (lv_at hl 2 rfl) ?_
    obtain ⟨h1, hf⟩ := hs_ck hf
    obtain ⟨h2, hf⟩ := hs_ck hf
    refine hs_getr (C := RX12) (T := TX12) (N := 48) hx hb hts (fun w h => List.mem_cons_of_mem _ (inlX12 w h)) hown hK.1 hP h1 (by decide) rfl 7 (by decide) (hts _ (List.mem_cons_of_mem _ wq125)) (fun _ h => h) rfl h2 dX12_longJumps_19 ?_
    refine lv_iload_n hx hb dX12_longJumps_22 rfl (lv_at hl 3 rfl) ?_
    obtain ⟨h3, hf⟩ := hs_ck hf
    obtain ⟨h4, hf⟩ := hs_ck hf
    refine hs_iald hx hb hK.1 hP h3 h4 dX12_longJumps_23 ?_
    exact wX12_longJumps_j24 hX hf hP hS (lv_sub hl [2, 3, 4, 1, 0] rfl)
  · replace hf := hs_f hf hc
    refine lv_aload_n hx hb dX12_longJumps_9 rfl (lv_at hl 2 rfl) ?_
    obtain ⟨h20, hf⟩ := hs_ck hf
    obtain ⟨h21, hf⟩ := hs_ck hf
    refine hs_getr (C := RX12) (T := TX12) (N := 48) hx hb hts (fun w h => List.mem_cons_of_mem _ (inlX12 w h)) hown hK.1 hP h20 (by decide) rfl 24 (by decide) (hts _ (List.mem_cons_of_mem _ wq142)) (fun _ h => h) rfl h21 dX12_longJumps_10 ?_
    refine lv_iload_n hx hb dX12_longJumps_13 rfl (lv_at hl 3 rfl) ?_
    obtain ⟨h22, hf⟩ := hs_ck hf
    obtain ⟨h23, hf⟩ := hs_ck hf
    refine hs_iald hx hb hK.1 hP h22 h23 dX12_longJumps_14 ?_
    refine lv_goto (tgt := 24) hx hb dX12_longJumps_15 (by decide) ?_
    exact wX12_longJumps_j24 hX hf hP hS (lv_sub hl [2, 3, 4, 1, 0] rfl)

theorem dX12_deepest_0 : decode cX12_deepest 0 = .ok (.iconst 0, 1) := by decide +kernel
theorem dX12_deepest_1 : decode cX12_deepest 1 = .ok (.istore_n 2, 1) := by decide +kernel
theorem dX12_deepest_2 : decode cX12_deepest 2 = .ok (.iload_n 2, 1) := by decide +kernel
theorem dX12_deepest_3 : decode cX12_deepest 3 = .ok (.bipush 8, 2) := by decide +kernel
theorem dX12_deepest_5 : decode cX12_deepest 5 = .ok (.if_icmp .ge 57, 3) := by decide +kernel
theorem dX12_deepest_8 : decode cX12_deepest 8 = .ok (.aload_n 0, 1) := by decide +kernel
theorem dX12_deepest_9 : decode cX12_deepest 9 = .ok (.getfield 48, 3) := by decide +kernel
theorem dX12_deepest_12 : decode cX12_deepest 12 = .ok (.iload_n 2, 1) := by decide +kernel
theorem dX12_deepest_13 : decode cX12_deepest 13 = .ok (.aload_n 0, 1) := by decide +kernel
theorem dX12_deepest_14 : decode cX12_deepest 14 = .ok (.getfield 17, 3) := by decide +kernel
theorem dX12_deepest_17 : decode cX12_deepest 17 = .ok (.iload_n 2, 1) := by decide +kernel
theorem dX12_deepest_18 : decode cX12_deepest 18 = .ok (.iaload, 1) := by decide +kernel
theorem dX12_deepest_19 : decode cX12_deepest 19 = .ok (.iastore, 1) := by decide +kernel
theorem dX12_deepest_20 : decode cX12_deepest 20 = .ok (.aload_n 0, 1) := by decide +kernel
theorem dX12_deepest_21 : decode cX12_deepest 21 = .ok (.getfield 51, 3) := by decide +kernel
theorem dX12_deepest_24 : decode cX12_deepest 24 = .ok (.iload_n 2, 1) := by decide +kernel
theorem dX12_deepest_25 : decode cX12_deepest 25 = .ok (.aload_n 0, 1) := by decide +kernel
theorem dX12_deepest_26 : decode cX12_deepest 26 = .ok (.getfield 20, 3) := by decide +kernel
theorem dX12_deepest_29 : decode cX12_deepest 29 = .ok (.iload_n 2, 1) := by decide +kernel
theorem dX12_deepest_30 : decode cX12_deepest 30 = .ok (.iaload, 1) := by decide +kernel
theorem dX12_deepest_31 : decode cX12_deepest 31 = .ok (.iastore, 1) := by decide +kernel
theorem dX12_deepest_32 : decode cX12_deepest 32 = .ok (.aload_n 0, 1) := by decide +kernel
theorem dX12_deepest_33 : decode cX12_deepest 33 = .ok (.getfield 54, 3) := by decide +kernel
theorem dX12_deepest_36 : decode cX12_deepest 36 = .ok (.iload_n 2, 1) := by decide +kernel
theorem dX12_deepest_37 : decode cX12_deepest 37 = .ok (.aload_n 0, 1) := by decide +kernel
theorem dX12_deepest_38 : decode cX12_deepest 38 = .ok (.getfield 23, 3) := by decide +kernel
theorem dX12_deepest_41 : decode cX12_deepest 41 = .ok (.iload_n 2, 1) := by decide +kernel
theorem dX12_deepest_42 : decode cX12_deepest 42 = .ok (.iaload, 1) := by decide +kernel
theorem dX12_deepest_43 : decode cX12_deepest 43 = .ok (.iastore, 1) := by decide +kernel
theorem dX12_deepest_44 : decode cX12_deepest 44 = .ok (.aload_n 0, 1) := by decide +kernel
theorem dX12_deepest_45 : decode cX12_deepest 45 = .ok (.getfield 60, 3) := by decide +kernel
theorem dX12_deepest_48 : decode cX12_deepest 48 = .ok (.iload_n 2, 1) := by decide +kernel
theorem dX12_deepest_49 : decode cX12_deepest 49 = .ok (.aload_n 0, 1) := by decide +kernel
theorem dX12_deepest_50 : decode cX12_deepest 50 = .ok (.getfield 26, 3) := by decide +kernel
theorem dX12_deepest_53 : decode cX12_deepest 53 = .ok (.iload_n 2, 1) := by decide +kernel
theorem dX12_deepest_54 : decode cX12_deepest 54 = .ok (.iaload, 1) := by decide +kernel
theorem dX12_deepest_55 : decode cX12_deepest 55 = .ok (.iastore, 1) := by decide +kernel
theorem dX12_deepest_56 : decode cX12_deepest 56 = .ok (.iinc 2 1, 3) := by decide +kernel
theorem dX12_deepest_59 : decode cX12_deepest 59 = .ok (.goto (-57), 3) := by decide +kernel
theorem dX12_deepest_62 : decode cX12_deepest 62 = .ok (.iconst 0, 1) := by decide +kernel
theorem dX12_deepest_63 : decode cX12_deepest 63 = .ok (.istore_n 2, 1) := by decide +kernel
theorem dX12_deepest_64 : decode cX12_deepest 64 = .ok (.iload_n 2, 1) := by decide +kernel
theorem dX12_deepest_65 : decode cX12_deepest 65 = .ok (.sipush 256, 3) := by decide +kernel
theorem dX12_deepest_68 : decode cX12_deepest 68 = .ok (.if_icmp .ge 21, 3) := by decide +kernel
theorem dX12_deepest_71 : decode cX12_deepest 71 = .ok (.aload_n 0, 1) := by decide +kernel
theorem dX12_deepest_72 : decode cX12_deepest 72 = .ok (.getfield 63, 3) := by decide +kernel
theorem dX12_deepest_75 : decode cX12_deepest 75 = .ok (.iload_n 2, 1) := by decide +kernel
theorem dX12_deepest_76 : decode cX12_deepest 76 = .ok (.aload_n 0, 1) := by decide +kernel
theorem dX12_deepest_77 : decode cX12_deepest 77 = .ok (.getfield 29, 3) := by decide +kernel
theorem dX12_deepest_80 : decode cX12_deepest 80 = .ok (.iload_n 2, 1) := by decide +kernel
theorem dX12_deepest_81 : decode cX12_deepest 81 = .ok (.iaload, 1) := by decide +kernel
theorem dX12_deepest_82 : decode cX12_deepest 82 = .ok (.iastore, 1) := by decide +kernel
theorem dX12_deepest_83 : decode cX12_deepest 83 = .ok (.iinc 2 1, 3) := by decide +kernel
theorem dX12_deepest_86 : decode cX12_deepest 86 = .ok (.goto (-22), 3) := by decide +kernel
theorem dX12_deepest_89 : decode cX12_deepest 89 = .ok (.iconst 0, 1) := by decide +kernel
theorem dX12_deepest_90 : decode cX12_deepest 90 = .ok (.istore_n 2, 1) := by decide +kernel
theorem dX12_deepest_91 : decode cX12_deepest 91 = .ok (.iload_n 2, 1) := by decide +kernel
theorem dX12_deepest_92 : decode cX12_deepest 92 = .ok (.sipush 16008, 3) := by decide +kernel
theorem dX12_deepest_95 : decode cX12_deepest 95 = .ok (.if_icmp .ge 21, 3) := by decide +kernel
theorem dX12_deepest_98 : decode cX12_deepest 98 = .ok (.aload_n 0, 1) := by decide +kernel
theorem dX12_deepest_99 : decode cX12_deepest 99 = .ok (.getfield 66, 3) := by decide +kernel
theorem dX12_deepest_102 : decode cX12_deepest 102 = .ok (.iload_n 2, 1) := by decide +kernel
theorem dX12_deepest_103 : decode cX12_deepest 103 = .ok (.aload_n 0, 1) := by decide +kernel
theorem dX12_deepest_104 : decode cX12_deepest 104 = .ok (.getfield 32, 3) := by decide +kernel
theorem dX12_deepest_107 : decode cX12_deepest 107 = .ok (.iload_n 2, 1) := by decide +kernel
theorem dX12_deepest_108 : decode cX12_deepest 108 = .ok (.iaload, 1) := by decide +kernel
theorem dX12_deepest_109 : decode cX12_deepest 109 = .ok (.iastore, 1) := by decide +kernel
theorem dX12_deepest_110 : decode cX12_deepest 110 = .ok (.iinc 2 1, 3) := by decide +kernel
theorem dX12_deepest_113 : decode cX12_deepest 113 = .ok (.goto (-22), 3) := by decide +kernel
theorem dX12_deepest_116 : decode cX12_deepest 116 = .ok (.aload_n 0, 1) := by decide +kernel
theorem dX12_deepest_117 : decode cX12_deepest 117 = .ok (.iload_n 1, 1) := by decide +kernel
theorem dX12_deepest_118 : decode cX12_deepest 118 = .ok (.invokevirtual 148, 3) := by decide +kernel
theorem dX12_deepest_121 : decode cX12_deepest 121 = .ok (.pop, 1) := by decide +kernel
theorem dX12_deepest_122 : decode cX12_deepest 122 = .ok (.iconst 0, 1) := by decide +kernel
theorem dX12_deepest_123 : decode cX12_deepest 123 = .ok (.istore_n 2, 1) := by decide +kernel
theorem dX12_deepest_124 : decode cX12_deepest 124 = .ok (.iconst 0, 1) := by decide +kernel
theorem dX12_deepest_125 : decode cX12_deepest 125 = .ok (.istore_n 3, 1) := by decide +kernel
theorem dX12_deepest_126 : decode cX12_deepest 126 = .ok (.iload_n 3, 1) := by decide +kernel
theorem dX12_deepest_127 : decode cX12_deepest 127 = .ok (.aload_n 0, 1) := by decide +kernel
theorem dX12_deepest_128 : decode cX12_deepest 128 = .ok (.getfield 23, 3) := by decide +kernel
theorem dX12_deepest_131 : decode cX12_deepest 131 = .ok (.iload_n 1, 1) := by decide +kernel
theorem dX12_deepest_132 : decode cX12_deepest 132 = .ok (.iaload, 1) := by decide +kernel
theorem dX12_deepest_133 : decode cX12_deepest 133 = .ok (.if_icmp .ge 42, 3) := by decide +kernel
theorem dX12_deepest_136 : decode cX12_deepest 136 = .ok (.aload_n 0, 1) := by decide +kernel
theorem dX12_deepest_137 : decode cX12_deepest 137 = .ok (.getfield 42, 3) := by decide +kernel
theorem dX12_deepest_140 : decode cX12_deepest 140 = .ok (.sipush 2001, 3) := by decide +kernel
theorem dX12_deepest_143 : decode cX12_deepest 143 = .ok (.iload_n 1, 1) := by decide +kernel
theorem dX12_deepest_144 : decode cX12_deepest 144 = .ok (.imul, 1) := by decide +kernel
theorem dX12_deepest_145 : decode cX12_deepest 145 = .ok (.iload_n 3, 1) := by decide +kernel
theorem dX12_deepest_146 : decode cX12_deepest 146 = .ok (.iadd, 1) := by decide +kernel
theorem dX12_deepest_147 : decode cX12_deepest 147 = .ok (.iaload, 1) := by decide +kernel
theorem dX12_deepest_148 : decode cX12_deepest 148 = .ok (.iload_n 2, 1) := by decide +kernel
theorem dX12_deepest_149 : decode cX12_deepest 149 = .ok (.if_icmp .le 18, 3) := by decide +kernel
theorem dX12_deepest_152 : decode cX12_deepest 152 = .ok (.aload_n 0, 1) := by decide +kernel
theorem dX12_deepest_153 : decode cX12_deepest 153 = .ok (.getfield 42, 3) := by decide +kernel
theorem dX12_deepest_156 : decode cX12_deepest 156 = .ok (.sipush 2001, 3) := by decide +kernel
theorem dX12_deepest_159 : decode cX12_deepest 159 = .ok (.iload_n 1, 1) := by decide +kernel
theorem dX12_deepest_160 : decode cX12_deepest 160 = .ok (.imul, 1) := by decide +kernel
theorem dX12_deepest_161 : decode cX12_deepest 161 = .ok (.iload_n 3, 1) := by decide +kernel
theorem dX12_deepest_162 : decode cX12_deepest 162 = .ok (.iadd, 1) := by decide +kernel
theorem dX12_deepest_163 : decode cX12_deepest 163 = .ok (.iaload, 1) := by decide +kernel
theorem dX12_deepest_164 : decode cX12_deepest 164 = .ok (.goto 4, 3) := by decide +kernel
theorem dX12_deepest_167 : decode cX12_deepest 167 = .ok (.iload_n 2, 1) := by decide +kernel
theorem dX12_deepest_168 : decode cX12_deepest 168 = .ok (.istore_n 2, 1) := by decide +kernel
theorem dX12_deepest_169 : decode cX12_deepest 169 = .ok (.iinc 3 1, 3) := by decide +kernel
theorem dX12_deepest_172 : decode cX12_deepest 172 = .ok (.goto (-46), 3) := by decide +kernel
theorem dX12_deepest_175 : decode cX12_deepest 175 = .ok (.iload_n 2, 1) := by decide +kernel
theorem dX12_deepest_176 : decode cX12_deepest 176 = .ok (.ireturn, 1) := by decide +kernel
abbrev wcX12_deepest : List Cond := .code yX12_deepest cX12_deepest 4 (some .int) :: wsL_law
def lX12_deepest_2 : Nat → Nat → Int32 → Int32 → hs_S → Option (hs_S)
  | 0, _, _, _, _ => none
  | n + 1, v0, v1, v2, g =>
    if (8 : Int32) ≤ v2 then (
      some g
    ) else (
      if hs_kd g v0 = 10 then
      if ¬ (hs_R g v0 15) = 0 then
      if ¬ (hs_R g v0 5) = 0 then
      if hs_kd g ((hs_R g v0 5) - 1) = 100 then
      if hs_in v2 (hs_ln g ((hs_R g v0 5) - 1)) = true then
      if hs_kd g ((hs_R g v0 15) - 1) = 100 then
      if hs_in v2 (hs_ln g ((hs_R g v0 15) - 1)) = true then
      hs_bv (some (hs_wI g ((hs_R g v0 15) - 1) v2.toNatClampNeg (hs_I g ((hs_R g v0 5) - 1) v2.toNatClampNeg))) fun g8 =>
      if ¬ (hs_R g8 v0 16) = 0 then
      if ¬ (hs_R g8 v0 6) = 0 then
      if hs_kd g8 ((hs_R g8 v0 6) - 1) = 100 then
      if hs_in v2 (hs_ln g8 ((hs_R g8 v0 6) - 1)) = true then
      if hs_kd g8 ((hs_R g8 v0 16) - 1) = 100 then
      if hs_in v2 (hs_ln g8 ((hs_R g8 v0 16) - 1)) = true then
      hs_bv (some (hs_wI g8 ((hs_R g8 v0 16) - 1) v2.toNatClampNeg (hs_I g8 ((hs_R g8 v0 6) - 1) v2.toNatClampNeg))) fun g21 =>
      if ¬ (hs_R g21 v0 17) = 0 then
      if ¬ (hs_R g21 v0 7) = 0 then
      if hs_kd g21 ((hs_R g21 v0 7) - 1) = 100 then
      if hs_in v2 (hs_ln g21 ((hs_R g21 v0 7) - 1)) = true then
      if hs_kd g21 ((hs_R g21 v0 17) - 1) = 100 then
      if hs_in v2 (hs_ln g21 ((hs_R g21 v0 17) - 1)) = true then
      hs_bv (some (hs_wI g21 ((hs_R g21 v0 17) - 1) v2.toNatClampNeg (hs_I g21 ((hs_R g21 v0 7) - 1) v2.toNatClampNeg))) fun g38 =>
      if ¬ (hs_R g38 v0 19) = 0 then
      if ¬ (hs_R g38 v0 8) = 0 then
      if hs_kd g38 ((hs_R g38 v0 8) - 1) = 100 then
      if hs_in v2 (hs_ln g38 ((hs_R g38 v0 8) - 1)) = true then
      if hs_kd g38 ((hs_R g38 v0 19) - 1) = 100 then
      if hs_in v2 (hs_ln g38 ((hs_R g38 v0 19) - 1)) = true then
      hs_bv (some (hs_wI g38 ((hs_R g38 v0 19) - 1) v2.toNatClampNeg (hs_I g38 ((hs_R g38 v0 8) - 1) v2.toNatClampNeg))) fun g59 =>
      lX12_deepest_2 n v0 v1 (v2 + (1 : Int32)) g59
      else none else none else none else none else none else none else none else none else none else none else none else none else none else none else none else none else none else none else none else none else none else none else none else none else none
    )
theorem lX12_deepest_2_s (n : Nat) (v0 : Nat) (v1 : Int32) (v2 : Int32) (g : hs_S) : lX12_deepest_2 (n + 1) v0 v1 v2 g =
    if (8 : Int32) ≤ v2 then (
      some g
    ) else (
      if hs_kd g v0 = 10 then
      if ¬ (hs_R g v0 15) = 0 then
      if ¬ (hs_R g v0 5) = 0 then
      if hs_kd g ((hs_R g v0 5) - 1) = 100 then
      if hs_in v2 (hs_ln g ((hs_R g v0 5) - 1)) = true then
      if hs_kd g ((hs_R g v0 15) - 1) = 100 then
      if hs_in v2 (hs_ln g ((hs_R g v0 15) - 1)) = true then
      hs_bv (some (hs_wI g ((hs_R g v0 15) - 1) v2.toNatClampNeg (hs_I g ((hs_R g v0 5) - 1) v2.toNatClampNeg))) fun g8 =>
      if ¬ (hs_R g8 v0 16) = 0 then
      if ¬ (hs_R g8 v0 6) = 0 then
      if hs_kd g8 ((hs_R g8 v0 6) - 1) = 100 then
      if hs_in v2 (hs_ln g8 ((hs_R g8 v0 6) - 1)) = true then
      if hs_kd g8 ((hs_R g8 v0 16) - 1) = 100 then
      if hs_in v2 (hs_ln g8 ((hs_R g8 v0 16) - 1)) = true then
      hs_bv (some (hs_wI g8 ((hs_R g8 v0 16) - 1) v2.toNatClampNeg (hs_I g8 ((hs_R g8 v0 6) - 1) v2.toNatClampNeg))) fun g21 =>
      if ¬ (hs_R g21 v0 17) = 0 then
      if ¬ (hs_R g21 v0 7) = 0 then
      if hs_kd g21 ((hs_R g21 v0 7) - 1) = 100 then
      if hs_in v2 (hs_ln g21 ((hs_R g21 v0 7) - 1)) = true then
      if hs_kd g21 ((hs_R g21 v0 17) - 1) = 100 then
      if hs_in v2 (hs_ln g21 ((hs_R g21 v0 17) - 1)) = true then
      hs_bv (some (hs_wI g21 ((hs_R g21 v0 17) - 1) v2.toNatClampNeg (hs_I g21 ((hs_R g21 v0 7) - 1) v2.toNatClampNeg))) fun g38 =>
      if ¬ (hs_R g38 v0 19) = 0 then
      if ¬ (hs_R g38 v0 8) = 0 then
      if hs_kd g38 ((hs_R g38 v0 8) - 1) = 100 then
      if hs_in v2 (hs_ln g38 ((hs_R g38 v0 8) - 1)) = true then
      if hs_kd g38 ((hs_R g38 v0 19) - 1) = 100 then
      if hs_in v2 (hs_ln g38 ((hs_R g38 v0 19) - 1)) = true then
      hs_bv (some (hs_wI g38 ((hs_R g38 v0 19) - 1) v2.toNatClampNeg (hs_I g38 ((hs_R g38 v0 8) - 1) v2.toNatClampNeg))) fun g59 =>
      lX12_deepest_2 n v0 v1 (v2 + (1 : Int32)) g59
      else none else none else none else none else none else none else none else none else none else none else none else none else none else none else none else none else none else none else none else none else none else none else none else none else none
    ) := rfl
def lX12_deepest_64 : Nat → Nat → Int32 → Int32 → hs_S → Option (hs_S)
  | 0, _, _, _, _ => none
  | n + 1, v0, v1, v2, g =>
    if (256 : Int32) ≤ v2 then (
      some g
    ) else (
      if hs_kd g v0 = 10 then
      if ¬ (hs_R g v0 20) = 0 then
      if ¬ (hs_R g v0 9) = 0 then
      if hs_kd g ((hs_R g v0 9) - 1) = 100 then
      if hs_in v2 (hs_ln g ((hs_R g v0 9) - 1)) = true then
      if hs_kd g ((hs_R g v0 20) - 1) = 100 then
      if hs_in v2 (hs_ln g ((hs_R g v0 20) - 1)) = true then
      hs_bv (some (hs_wI g ((hs_R g v0 20) - 1) v2.toNatClampNeg (hs_I g ((hs_R g v0 9) - 1) v2.toNatClampNeg))) fun g88 =>
      lX12_deepest_64 n v0 v1 (v2 + (1 : Int32)) g88
      else none else none else none else none else none else none else none
    )
theorem lX12_deepest_64_s (n : Nat) (v0 : Nat) (v1 : Int32) (v2 : Int32) (g : hs_S) : lX12_deepest_64 (n + 1) v0 v1 v2 g =
    if (256 : Int32) ≤ v2 then (
      some g
    ) else (
      if hs_kd g v0 = 10 then
      if ¬ (hs_R g v0 20) = 0 then
      if ¬ (hs_R g v0 9) = 0 then
      if hs_kd g ((hs_R g v0 9) - 1) = 100 then
      if hs_in v2 (hs_ln g ((hs_R g v0 9) - 1)) = true then
      if hs_kd g ((hs_R g v0 20) - 1) = 100 then
      if hs_in v2 (hs_ln g ((hs_R g v0 20) - 1)) = true then
      hs_bv (some (hs_wI g ((hs_R g v0 20) - 1) v2.toNatClampNeg (hs_I g ((hs_R g v0 9) - 1) v2.toNatClampNeg))) fun g88 =>
      lX12_deepest_64 n v0 v1 (v2 + (1 : Int32)) g88
      else none else none else none else none else none else none else none
    ) := rfl
def lX12_deepest_91 : Nat → Nat → Int32 → Int32 → hs_S → Option (hs_S)
  | 0, _, _, _, _ => none
  | n + 1, v0, v1, v2, g =>
    if (16008 : Int32) ≤ v2 then (
      some g
    ) else (
      if hs_kd g v0 = 10 then
      if ¬ (hs_R g v0 21) = 0 then
      if ¬ (hs_R g v0 10) = 0 then
      if hs_kd g ((hs_R g v0 10) - 1) = 100 then
      if hs_in v2 (hs_ln g ((hs_R g v0 10) - 1)) = true then
      if hs_kd g ((hs_R g v0 21) - 1) = 100 then
      if hs_in v2 (hs_ln g ((hs_R g v0 21) - 1)) = true then
      hs_bv (some (hs_wI g ((hs_R g v0 21) - 1) v2.toNatClampNeg (hs_I g ((hs_R g v0 10) - 1) v2.toNatClampNeg))) fun g105 =>
      lX12_deepest_91 n v0 v1 (v2 + (1 : Int32)) g105
      else none else none else none else none else none else none else none
    )
theorem lX12_deepest_91_s (n : Nat) (v0 : Nat) (v1 : Int32) (v2 : Int32) (g : hs_S) : lX12_deepest_91 (n + 1) v0 v1 v2 g =
    if (16008 : Int32) ≤ v2 then (
      some g
    ) else (
      if hs_kd g v0 = 10 then
      if ¬ (hs_R g v0 21) = 0 then
      if ¬ (hs_R g v0 10) = 0 then
      if hs_kd g ((hs_R g v0 10) - 1) = 100 then
      if hs_in v2 (hs_ln g ((hs_R g v0 10) - 1)) = true then
      if hs_kd g ((hs_R g v0 21) - 1) = 100 then
      if hs_in v2 (hs_ln g ((hs_R g v0 21) - 1)) = true then
      hs_bv (some (hs_wI g ((hs_R g v0 21) - 1) v2.toNatClampNeg (hs_I g ((hs_R g v0 10) - 1) v2.toNatClampNeg))) fun g105 =>
      lX12_deepest_91 n v0 v1 (v2 + (1 : Int32)) g105
      else none else none else none else none else none else none else none
    ) := rfl
def jX12_deepest_168 (rec : Int32 → Int32 → hs_S → Option (Int32 × hs_S)) (v0 : Nat) (v1 : Int32) (v3 : Int32) (s0 : Int32) (g : hs_S) : Option (Int32 × hs_S) :=
  rec s0 (v3 + (1 : Int32)) g
def lX12_deepest_126 : Nat → Nat → Int32 → Int32 → Int32 → hs_S → Option (Int32 × hs_S)
  | 0, _, _, _, _, _ => none
  | n + 1, v0, v1, v2, v3, g =>
    if hs_kd g v0 = 10 then
    if ¬ (hs_R g v0 7) = 0 then
    if hs_kd g ((hs_R g v0 7) - 1) = 100 then
    if hs_in v1 (hs_ln g ((hs_R g v0 7) - 1)) = true then
    if (hs_I g ((hs_R g v0 7) - 1) v1.toNatClampNeg) ≤ v3 then (
      some (v2, g)
    ) else (
      if ¬ (hs_R g v0 13) = 0 then
      if hs_kd g ((hs_R g v0 13) - 1) = 100 then
      if hs_in (((2001 : Int32) * v1) + v3) (hs_ln g ((hs_R g v0 13) - 1)) = true then
      if (hs_I g ((hs_R g v0 13) - 1) (((2001 : Int32) * v1) + v3).toNatClampNeg) ≤ v2 then (
        jX12_deepest_168 (fun y0 y1 g => lX12_deepest_126 n v0 v1 y0 y1 g) v0 v1 v3 v2 g
      ) else (
        jX12_deepest_168 (fun y0 y1 g => lX12_deepest_126 n v0 v1 y0 y1 g) v0 v1 v3 (hs_I g ((hs_R g v0 13) - 1) (((2001 : Int32) * v1) + v3).toNatClampNeg) g
      )
      else none else none else none
    )
    else none else none else none else none
theorem lX12_deepest_126_s (n : Nat) (v0 : Nat) (v1 : Int32) (v2 : Int32) (v3 : Int32) (g : hs_S) : lX12_deepest_126 (n + 1) v0 v1 v2 v3 g =
    if hs_kd g v0 = 10 then
    if ¬ (hs_R g v0 7) = 0 then
    if hs_kd g ((hs_R g v0 7) - 1) = 100 then
    if hs_in v1 (hs_ln g ((hs_R g v0 7) - 1)) = true then
    if (hs_I g ((hs_R g v0 7) - 1) v1.toNatClampNeg) ≤ v3 then (
      some (v2, g)
    ) else (
      if ¬ (hs_R g v0 13) = 0 then
      if hs_kd g ((hs_R g v0 13) - 1) = 100 then
      if hs_in (((2001 : Int32) * v1) + v3) (hs_ln g ((hs_R g v0 13) - 1)) = true then
      if (hs_I g ((hs_R g v0 13) - 1) (((2001 : Int32) * v1) + v3).toNatClampNeg) ≤ v2 then (
        jX12_deepest_168 (fun y0 y1 g => lX12_deepest_126 n v0 v1 y0 y1 g) v0 v1 v3 v2 g
      ) else (
        jX12_deepest_168 (fun y0 y1 g => lX12_deepest_126 n v0 v1 y0 y1 g) v0 v1 v3 (hs_I g ((hs_R g v0 13) - 1) (((2001 : Int32) * v1) + v3).toNatClampNeg) g
      )
      else none else none else none
    )
    else none else none else none else none := rfl
def fX12_deepest (v0 : Nat) (v1 : Int32) (g : hs_S) : Option (Int32 × hs_S) :=
  hs_bv (lX12_deepest_2 hs_N v0 v1 (0 : Int32) g) fun g79 =>
  hs_bv (lX12_deepest_64 hs_N v0 v1 (0 : Int32) g79) fun g96 =>
  hs_bv (lX12_deepest_91 hs_N v0 v1 (0 : Int32) g96) fun g113 =>
  if hs_kd g113 v0 = 10 then
  hs_bd (fX12_stacks v0 v1 g113) fun r117 g116 =>
  hs_bd (lX12_deepest_126 hs_N v0 v1 (0 : Int32) (0 : Int32) g116) fun x126 g128 =>
  some (x126, g128)
  else none
abbrev rmX12_deepest : Room := { frames := 4, cells := 0, slots := 0, locals := 97 }
set_option maxHeartbeats 4000000 in
set_option maxRecDepth 100000 in
theorem wX12_deepest_2 {p : Program} {l : Launch} {e : Env} {s : State} {m : MethodId} {args : Array Value} {below : List Frame} {meth : Method} {c : Code} {B : Nat} {D : va_G} {E : Nat → ClassId} (hX : hs_cx cX12_deepest (some .int) 4 RX12 wcX12_deepest p s m args meth c D E) {Q : State → Prop} {o : hs_S} {v0 : Nat} {v1 : Int32} (hex0 : ∀ (H : Heap) (locs : List Loc) (ls : Array Slot), hs_P B D E (o) H → hs_Sx B s.heap H locs → lv_has ls 4 [(0, .ref (B + v0)), (1, .int v1)] → W p l e rmX12_deepest s m args below meth c H locs 0 0 Q (F0 m 62 ls [])) : ∀ (n : Nat) (v2 : Int32) (g : hs_S), lX12_deepest_2 n v0 v1 v2 g = some o → ∀ (H : Heap) (locs : List Loc) (ls : Array Slot), hs_P B D E g H → hs_Sx B s.heap H locs → lv_has ls 4 [(0, .ref (B + v0)), (1, .int v1), (2, .int v2)] → W p l e rmX12_deepest s m args below meth c H locs 0 0 Q (F0 m 2 ls []) := by
  obtain ⟨hx, hb, hr, hml, hown, hts, hlocks, hK⟩ := id hX
  intro n
  induction n with
  | zero =>
    intro v2 g hf
    cases hf
  | succ n ih =>
    intro v2 g hf H locs ls hP hS hl
    replace hf := (lX12_deepest_2_s n v0 v1 v2 g).symm.trans hf
    refine lv_iload_n hx hb dX12_deepest_2 rfl (lv_at hl 2 rfl) ?_
    refine lv_bipush (v := 8) hx hb dX12_deepest_3 (by decide) ?_
    refine lv_icmp_ge (tgt := 62) hx hb dX12_deepest_5 (by decide) (fun hc => ?_) (fun hc => ?_)
    · replace hf := hs_t hf hc
      obtain rfl := Option.some.inj hf
      exact hex0 _ _ _ hP hS (lv_sub hl [0, 1] rfl)
    · replace hf := hs_f hf hc
      refine lv_aload_n hx hb dX12_deepest_8 rfl (lv_at hl 0 rfl) ?_
      obtain ⟨h1, hf⟩ := hs_ck hf
      obtain ⟨h2, hf⟩ := hs_ck hf
      refine hs_getr (C := RX12) (T := TX12) (N := 48) hx hb hts (fun w h => List.mem_cons_of_mem _ (inlX12 w h)) hown hK.1 hP h1 (by decide) rfl 15 (by decide) (hts _ (List.mem_cons_of_mem _ wq134)) (fun _ h => h) rfl h2 dX12_deepest_9 ?_
      refine lv_iload_n hx hb dX12_deepest_12 rfl (lv_at hl 2 rfl) ?_
      refine lv_aload_n hx hb dX12_deepest_13 rfl (lv_at hl 0 rfl) ?_
      obtain ⟨h3, hf⟩ := hs_ck hf
      refine hs_getr (C := RX12) (T := TX12) (N := 48) hx hb hts (fun w h => List.mem_cons_of_mem _ (inlX12 w h)) hown hK.1 hP h1 (by decide) rfl 5 (by decide) (hts _ (List.mem_cons_of_mem _ wq123)) (fun _ h => h) rfl h3 dX12_deepest_14 ?_
      refine lv_iload_n hx hb dX12_deepest_17 rfl (lv_at hl 2 rfl) ?_
      obtain ⟨h4, hf⟩ := hs_ck hf
      obtain ⟨h5, hf⟩ := hs_ck hf
      refine hs_iald hx hb hK.1 hP h4 h5 dX12_deepest_18 ?_
      obtain ⟨h6, hf⟩ := hs_ck hf
      obtain ⟨h7, hf⟩ := hs_ck hf
      refine hs_iast hx hb hK.1 hP hS h6 h7 dX12_deepest_19 (fun H locs hP hS => ?_)
      obtain ⟨g8, e9, hf⟩ := hs_bv_some hf
      replace e9 := Option.some.inj e9
      rw [e9] at hP
      have h10 : hs_kd g8 v0 = 10 := by rw [← e9]; exact h1
      have h11 : hs_kd g8 ((hs_R g v0 5) - 1) = 100 := by rw [← e9]; exact h4
      have h12 : hs_in v2 (hs_ln g8 ((hs_R g v0 5) - 1)) = true := by rw [← e9]; exact h5
      have h13 : hs_kd g8 ((hs_R g v0 15) - 1) = 100 := by rw [← e9]; exact h6
      have h14 : hs_in v2 (hs_ln g8 ((hs_R g v0 15) - 1)) = true := by rw [← e9]; exact h7
      refine lv_aload_n hx hb dX12_deepest_20 rfl (lv_at hl 0 rfl) ?_
      obtain ⟨h15, hf⟩ := hs_ck hf
      refine hs_getr (C := RX12) (T := TX12) (N := 48) hx hb hts (fun w h => List.mem_cons_of_mem _ (inlX12 w h)) hown hK.1 hP h10 (by decide) rfl 16 (by decide) (hts _ (List.mem_cons_of_mem _ wq135)) (fun _ h => h) rfl h15 dX12_deepest_21 ?_
      refine lv_iload_n hx hb dX12_deepest_24 rfl (lv_at hl 2 rfl) ?_
      refine lv_aload_n hx hb dX12_deepest_25 rfl (lv_at hl 0 rfl) ?_
      obtain ⟨h16, hf⟩ := hs_ck hf
      refine hs_getr (C := RX12) (T := TX12) (N := 48) hx hb hts (fun w h => List.mem_cons_of_mem _ (inlX12 w h)) hown hK.1 hP h10 (by decide) rfl 6 (by decide) (hts _ (List.mem_cons_of_mem _ wq124)) (fun _ h => h) rfl h16 dX12_deepest_26 ?_
      refine lv_iload_n hx hb dX12_deepest_29 rfl (lv_at hl 2 rfl) ?_
      obtain ⟨h17, hf⟩ := hs_ck hf
      obtain ⟨h18, hf⟩ := hs_ck hf
      refine hs_iald hx hb hK.1 hP h17 h18 dX12_deepest_30 ?_
      obtain ⟨h19, hf⟩ := hs_ck hf
      obtain ⟨h20, hf⟩ := hs_ck hf
      refine hs_iast hx hb hK.1 hP hS h19 h20 dX12_deepest_31 (fun H locs hP hS => ?_)
      obtain ⟨g21, e22, hf⟩ := hs_bv_some hf
      replace e22 := Option.some.inj e22
      rw [e22] at hP
      have h23 : hs_kd g21 v0 = 10 := by rw [← e22]; exact h10
      have h24 : hs_kd g21 ((hs_R g v0 5) - 1) = 100 := by rw [← e22]; exact h11
      have h25 : hs_in v2 (hs_ln g21 ((hs_R g v0 5) - 1)) = true := by rw [← e22]; exact h12
      have h26 : hs_kd g21 ((hs_R g v0 15) - 1) = 100 := by rw [← e22]; exact h13
      have h27 : hs_in v2 (hs_ln g21 ((hs_R g v0 15) - 1)) = true := by rw [← e22]; exact h14
      have h28 : hs_kd g21 ((hs_R g8 v0 6) - 1) = 100 := by rw [← e22]; exact h17
      have h29 : hs_in v2 (hs_ln g21 ((hs_R g8 v0 6) - 1)) = true := by rw [← e22]; exact h18
      have h30 : hs_kd g21 ((hs_R g8 v0 16) - 1) = 100 := by rw [← e22]; exact h19
      have h31 : hs_in v2 (hs_ln g21 ((hs_R g8 v0 16) - 1)) = true := by rw [← e22]; exact h20
      refine lv_aload_n hx hb dX12_deepest_32 rfl (lv_at hl 0 rfl) ?_
      obtain ⟨h32, hf⟩ := hs_ck hf
      refine hs_getr (C := RX12) (T := TX12) (N := 48) hx hb hts (fun w h => List.mem_cons_of_mem _ (inlX12 w h)) hown hK.1 hP h23 (by decide) rfl 17 (by decide) (hts _ (List.mem_cons_of_mem _ wq136)) (fun _ h => h) rfl h32 dX12_deepest_33 ?_
      refine lv_iload_n hx hb dX12_deepest_36 rfl (lv_at hl 2 rfl) ?_
      refine lv_aload_n hx hb dX12_deepest_37 rfl (lv_at hl 0 rfl) ?_
      obtain ⟨h33, hf⟩ := hs_ck hf
      refine hs_getr (C := RX12) (T := TX12) (N := 48) hx hb hts (fun w h => List.mem_cons_of_mem _ (inlX12 w h)) hown hK.1 hP h23 (by decide) rfl 7 (by decide) (hts _ (List.mem_cons_of_mem _ wq125)) (fun _ h => h) rfl h33 dX12_deepest_38 ?_
      refine lv_iload_n hx hb dX12_deepest_41 rfl (lv_at hl 2 rfl) ?_
      obtain ⟨h34, hf⟩ := hs_ck hf
      obtain ⟨h35, hf⟩ := hs_ck hf
      refine hs_iald hx hb hK.1 hP h34 h35 dX12_deepest_42 ?_
      obtain ⟨h36, hf⟩ := hs_ck hf
      obtain ⟨h37, hf⟩ := hs_ck hf
      refine hs_iast hx hb hK.1 hP hS h36 h37 dX12_deepest_43 (fun H locs hP hS => ?_)
      obtain ⟨g38, e39, hf⟩ := hs_bv_some hf
      replace e39 := Option.some.inj e39
      rw [e39] at hP
      have h40 : hs_kd g38 v0 = 10 := by rw [← e39]; exact h23
      have h41 : hs_kd g38 ((hs_R g v0 5) - 1) = 100 := by rw [← e39]; exact h24
      have h42 : hs_in v2 (hs_ln g38 ((hs_R g v0 5) - 1)) = true := by rw [← e39]; exact h25
      have h43 : hs_kd g38 ((hs_R g v0 15) - 1) = 100 := by rw [← e39]; exact h26
      have h44 : hs_in v2 (hs_ln g38 ((hs_R g v0 15) - 1)) = true := by rw [← e39]; exact h27
      have h45 : hs_kd g38 ((hs_R g8 v0 6) - 1) = 100 := by rw [← e39]; exact h28
      have h46 : hs_in v2 (hs_ln g38 ((hs_R g8 v0 6) - 1)) = true := by rw [← e39]; exact h29
      have h47 : hs_kd g38 ((hs_R g8 v0 16) - 1) = 100 := by rw [← e39]; exact h30
      have h48 : hs_in v2 (hs_ln g38 ((hs_R g8 v0 16) - 1)) = true := by rw [← e39]; exact h31
      have h49 : hs_kd g38 ((hs_R g21 v0 7) - 1) = 100 := by rw [← e39]; exact h34
      have h50 : hs_in v2 (hs_ln g38 ((hs_R g21 v0 7) - 1)) = true := by rw [← e39]; exact h35
      have h51 : hs_kd g38 ((hs_R g21 v0 17) - 1) = 100 := by rw [← e39]; exact h36
      have h52 : hs_in v2 (hs_ln g38 ((hs_R g21 v0 17) - 1)) = true := by rw [← e39]; exact h37
      refine lv_aload_n hx hb dX12_deepest_44 rfl (lv_at hl 0 rfl) ?_
      obtain ⟨h53, hf⟩ := hs_ck hf
      refine hs_getr (C := RX12) (T := TX12) (N := 48) hx hb hts (fun w h => List.mem_cons_of_mem _ (inlX12 w h)) hown hK.1 hP h40 (by decide) rfl 19 (by decide) (hts _ (List.mem_cons_of_mem _ wq138)) (fun _ h => h) rfl h53 dX12_deepest_45 ?_
      refine lv_iload_n hx hb dX12_deepest_48 rfl (lv_at hl 2 rfl) ?_
      refine lv_aload_n hx hb dX12_deepest_49 rfl (lv_at hl 0 rfl) ?_
      obtain ⟨h54, hf⟩ := hs_ck hf
      refine hs_getr (C := RX12) (T := TX12) (N := 48) hx hb hts (fun w h => List.mem_cons_of_mem _ (inlX12 w h)) hown hK.1 hP h40 (by decide) rfl 8 (by decide) (hts _ (List.mem_cons_of_mem _ wq126)) (fun _ h => h) rfl h54 dX12_deepest_50 ?_
      refine lv_iload_n hx hb dX12_deepest_53 rfl (lv_at hl 2 rfl) ?_
      obtain ⟨h55, hf⟩ := hs_ck hf
      obtain ⟨h56, hf⟩ := hs_ck hf
      refine hs_iald hx hb hK.1 hP h55 h56 dX12_deepest_54 ?_
      obtain ⟨h57, hf⟩ := hs_ck hf
      obtain ⟨h58, hf⟩ := hs_ck hf
      refine hs_iast hx hb hK.1 hP hS h57 h58 dX12_deepest_55 (fun H locs hP hS => ?_)
      obtain ⟨g59, e60, hf⟩ := hs_bv_some hf
      replace e60 := Option.some.inj e60
      rw [e60] at hP
      have h61 : hs_kd g59 v0 = 10 := by rw [← e60]; exact h40
      have h62 : hs_kd g59 ((hs_R g v0 5) - 1) = 100 := by rw [← e60]; exact h41
      have h63 : hs_in v2 (hs_ln g59 ((hs_R g v0 5) - 1)) = true := by rw [← e60]; exact h42
      have h64 : hs_kd g59 ((hs_R g v0 15) - 1) = 100 := by rw [← e60]; exact h43
      have h65 : hs_in v2 (hs_ln g59 ((hs_R g v0 15) - 1)) = true := by rw [← e60]; exact h44
      have h66 : hs_kd g59 ((hs_R g8 v0 6) - 1) = 100 := by rw [← e60]; exact h45
      have h67 : hs_in v2 (hs_ln g59 ((hs_R g8 v0 6) - 1)) = true := by rw [← e60]; exact h46
      have h68 : hs_kd g59 ((hs_R g8 v0 16) - 1) = 100 := by rw [← e60]; exact h47
      have h69 : hs_in v2 (hs_ln g59 ((hs_R g8 v0 16) - 1)) = true := by rw [← e60]; exact h48
      have h70 : hs_kd g59 ((hs_R g21 v0 7) - 1) = 100 := by rw [← e60]; exact h49
      have h71 : hs_in v2 (hs_ln g59 ((hs_R g21 v0 7) - 1)) = true := by rw [← e60]; exact h50
      have h72 : hs_kd g59 ((hs_R g21 v0 17) - 1) = 100 := by rw [← e60]; exact h51
      have h73 : hs_in v2 (hs_ln g59 ((hs_R g21 v0 17) - 1)) = true := by rw [← e60]; exact h52
      have h74 : hs_kd g59 ((hs_R g38 v0 8) - 1) = 100 := by rw [← e60]; exact h55
      have h75 : hs_in v2 (hs_ln g59 ((hs_R g38 v0 8) - 1)) = true := by rw [← e60]; exact h56
      have h76 : hs_kd g59 ((hs_R g38 v0 19) - 1) = 100 := by rw [← e60]; exact h57
      have h77 : hs_in v2 (hs_ln g59 ((hs_R g38 v0 19) - 1)) = true := by rw [← e60]; exact h58
      refine lv_iinc (v := (v2 + (1 : Int32))) (lv' := [(2, .int (v2 + (1 : Int32))), (0, .ref (B + v0)), (1, .int v1)]) hx hb dX12_deepest_56 hl (k := 2) rfl (by rfl) (by decide) rfl (fun ls hl => ?_)
      refine lv_goto (tgt := 2) hx hb dX12_deepest_59 (by decide) ?_
      exact ih _ _ hf _ _ _ hP hS (lv_sub hl [1, 2, 0] rfl)

set_option maxHeartbeats 4000000 in
set_option maxRecDepth 100000 in
theorem wX12_deepest_64 {p : Program} {l : Launch} {e : Env} {s : State} {m : MethodId} {args : Array Value} {below : List Frame} {meth : Method} {c : Code} {B : Nat} {D : va_G} {E : Nat → ClassId} (hX : hs_cx cX12_deepest (some .int) 4 RX12 wcX12_deepest p s m args meth c D E) {Q : State → Prop} {o : hs_S} {v0 : Nat} {v1 : Int32} (hex0 : ∀ (H : Heap) (locs : List Loc) (ls : Array Slot), hs_P B D E (o) H → hs_Sx B s.heap H locs → lv_has ls 4 [(0, .ref (B + v0)), (1, .int v1)] → W p l e rmX12_deepest s m args below meth c H locs 0 0 Q (F0 m 89 ls [])) : ∀ (n : Nat) (v2 : Int32) (g : hs_S), lX12_deepest_64 n v0 v1 v2 g = some o → ∀ (H : Heap) (locs : List Loc) (ls : Array Slot), hs_P B D E g H → hs_Sx B s.heap H locs → lv_has ls 4 [(0, .ref (B + v0)), (1, .int v1), (2, .int v2)] → W p l e rmX12_deepest s m args below meth c H locs 0 0 Q (F0 m 64 ls []) := by
  obtain ⟨hx, hb, hr, hml, hown, hts, hlocks, hK⟩ := id hX
  intro n
  induction n with
  | zero =>
    intro v2 g hf
    cases hf
  | succ n ih =>
    intro v2 g hf H locs ls hP hS hl
    replace hf := (lX12_deepest_64_s n v0 v1 v2 g).symm.trans hf
    refine lv_iload_n hx hb dX12_deepest_64 rfl (lv_at hl 2 rfl) ?_
    refine lv_sipush (v := 256) hx hb dX12_deepest_65 (by decide) ?_
    refine lv_icmp_ge (tgt := 89) hx hb dX12_deepest_68 (by decide) (fun hc => ?_) (fun hc => ?_)
    · replace hf := hs_t hf hc
      obtain rfl := Option.some.inj hf
      exact hex0 _ _ _ hP hS (lv_sub hl [0, 1] rfl)
    · replace hf := hs_f hf hc
      refine lv_aload_n hx hb dX12_deepest_71 rfl (lv_at hl 0 rfl) ?_
      obtain ⟨h81, hf⟩ := hs_ck hf
      obtain ⟨h82, hf⟩ := hs_ck hf
      refine hs_getr (C := RX12) (T := TX12) (N := 48) hx hb hts (fun w h => List.mem_cons_of_mem _ (inlX12 w h)) hown hK.1 hP h81 (by decide) rfl 20 (by decide) (hts _ (List.mem_cons_of_mem _ wq139)) (fun _ h => h) rfl h82 dX12_deepest_72 ?_
      refine lv_iload_n hx hb dX12_deepest_75 rfl (lv_at hl 2 rfl) ?_
      refine lv_aload_n hx hb dX12_deepest_76 rfl (lv_at hl 0 rfl) ?_
      obtain ⟨h83, hf⟩ := hs_ck hf
      refine hs_getr (C := RX12) (T := TX12) (N := 48) hx hb hts (fun w h => List.mem_cons_of_mem _ (inlX12 w h)) hown hK.1 hP h81 (by decide) rfl 9 (by decide) (hts _ (List.mem_cons_of_mem _ wq127)) (fun _ h => h) rfl h83 dX12_deepest_77 ?_
      refine lv_iload_n hx hb dX12_deepest_80 rfl (lv_at hl 2 rfl) ?_
      obtain ⟨h84, hf⟩ := hs_ck hf
      obtain ⟨h85, hf⟩ := hs_ck hf
      refine hs_iald hx hb hK.1 hP h84 h85 dX12_deepest_81 ?_
      obtain ⟨h86, hf⟩ := hs_ck hf
      obtain ⟨h87, hf⟩ := hs_ck hf
      refine hs_iast hx hb hK.1 hP hS h86 h87 dX12_deepest_82 (fun H locs hP hS => ?_)
      obtain ⟨g88, e89, hf⟩ := hs_bv_some hf
      replace e89 := Option.some.inj e89
      rw [e89] at hP
      have h90 : hs_kd g88 v0 = 10 := by rw [← e89]; exact h81
      have h91 : hs_kd g88 ((hs_R g v0 9) - 1) = 100 := by rw [← e89]; exact h84
      have h92 : hs_in v2 (hs_ln g88 ((hs_R g v0 9) - 1)) = true := by rw [← e89]; exact h85
      have h93 : hs_kd g88 ((hs_R g v0 20) - 1) = 100 := by rw [← e89]; exact h86
      have h94 : hs_in v2 (hs_ln g88 ((hs_R g v0 20) - 1)) = true := by rw [← e89]; exact h87
      refine lv_iinc (v := (v2 + (1 : Int32))) (lv' := [(2, .int (v2 + (1 : Int32))), (0, .ref (B + v0)), (1, .int v1)]) hx hb dX12_deepest_83 hl (k := 2) rfl (by rfl) (by decide) rfl (fun ls hl => ?_)
      refine lv_goto (tgt := 64) hx hb dX12_deepest_86 (by decide) ?_
      exact ih _ _ hf _ _ _ hP hS (lv_sub hl [1, 2, 0] rfl)

set_option maxHeartbeats 4000000 in
set_option maxRecDepth 100000 in
theorem wX12_deepest_91 {p : Program} {l : Launch} {e : Env} {s : State} {m : MethodId} {args : Array Value} {below : List Frame} {meth : Method} {c : Code} {B : Nat} {D : va_G} {E : Nat → ClassId} (hX : hs_cx cX12_deepest (some .int) 4 RX12 wcX12_deepest p s m args meth c D E) {Q : State → Prop} {o : hs_S} {v0 : Nat} {v1 : Int32} (hex0 : ∀ (H : Heap) (locs : List Loc) (ls : Array Slot), hs_P B D E (o) H → hs_Sx B s.heap H locs → lv_has ls 4 [(0, .ref (B + v0)), (1, .int v1)] → W p l e rmX12_deepest s m args below meth c H locs 0 0 Q (F0 m 116 ls [])) : ∀ (n : Nat) (v2 : Int32) (g : hs_S), lX12_deepest_91 n v0 v1 v2 g = some o → ∀ (H : Heap) (locs : List Loc) (ls : Array Slot), hs_P B D E g H → hs_Sx B s.heap H locs → lv_has ls 4 [(0, .ref (B + v0)), (1, .int v1), (2, .int v2)] → W p l e rmX12_deepest s m args below meth c H locs 0 0 Q (F0 m 91 ls []) := by
  obtain ⟨hx, hb, hr, hml, hown, hts, hlocks, hK⟩ := id hX
  intro n
  induction n with
  | zero =>
    intro v2 g hf
    cases hf
  | succ n ih =>
    intro v2 g hf H locs ls hP hS hl
    replace hf := (lX12_deepest_91_s n v0 v1 v2 g).symm.trans hf
    refine lv_iload_n hx hb dX12_deepest_91 rfl (lv_at hl 2 rfl) ?_
    refine lv_sipush (v := 16008) hx hb dX12_deepest_92 (by decide) ?_
    refine lv_icmp_ge (tgt := 116) hx hb dX12_deepest_95 (by decide) (fun hc => ?_) (fun hc => ?_)
    · replace hf := hs_t hf hc
      obtain rfl := Option.some.inj hf
      exact hex0 _ _ _ hP hS (lv_sub hl [0, 1] rfl)
    · replace hf := hs_f hf hc
      refine lv_aload_n hx hb dX12_deepest_98 rfl (lv_at hl 0 rfl) ?_
      obtain ⟨h98, hf⟩ := hs_ck hf
      obtain ⟨h99, hf⟩ := hs_ck hf
      refine hs_getr (C := RX12) (T := TX12) (N := 48) hx hb hts (fun w h => List.mem_cons_of_mem _ (inlX12 w h)) hown hK.1 hP h98 (by decide) rfl 21 (by decide) (hts _ (List.mem_cons_of_mem _ wq140)) (fun _ h => h) rfl h99 dX12_deepest_99 ?_
      refine lv_iload_n hx hb dX12_deepest_102 rfl (lv_at hl 2 rfl) ?_
      refine lv_aload_n hx hb dX12_deepest_103 rfl (lv_at hl 0 rfl) ?_
      obtain ⟨h100, hf⟩ := hs_ck hf
      refine hs_getr (C := RX12) (T := TX12) (N := 48) hx hb hts (fun w h => List.mem_cons_of_mem _ (inlX12 w h)) hown hK.1 hP h98 (by decide) rfl 10 (by decide) (hts _ (List.mem_cons_of_mem _ wq128)) (fun _ h => h) rfl h100 dX12_deepest_104 ?_
      refine lv_iload_n hx hb dX12_deepest_107 rfl (lv_at hl 2 rfl) ?_
      obtain ⟨h101, hf⟩ := hs_ck hf
      obtain ⟨h102, hf⟩ := hs_ck hf
      refine hs_iald hx hb hK.1 hP h101 h102 dX12_deepest_108 ?_
      obtain ⟨h103, hf⟩ := hs_ck hf
      obtain ⟨h104, hf⟩ := hs_ck hf
      refine hs_iast hx hb hK.1 hP hS h103 h104 dX12_deepest_109 (fun H locs hP hS => ?_)
      obtain ⟨g105, e106, hf⟩ := hs_bv_some hf
      replace e106 := Option.some.inj e106
      rw [e106] at hP
      have h107 : hs_kd g105 v0 = 10 := by rw [← e106]; exact h98
      have h108 : hs_kd g105 ((hs_R g v0 10) - 1) = 100 := by rw [← e106]; exact h101
      have h109 : hs_in v2 (hs_ln g105 ((hs_R g v0 10) - 1)) = true := by rw [← e106]; exact h102
      have h110 : hs_kd g105 ((hs_R g v0 21) - 1) = 100 := by rw [← e106]; exact h103
      have h111 : hs_in v2 (hs_ln g105 ((hs_R g v0 21) - 1)) = true := by rw [← e106]; exact h104
      refine lv_iinc (v := (v2 + (1 : Int32))) (lv' := [(2, .int (v2 + (1 : Int32))), (0, .ref (B + v0)), (1, .int v1)]) hx hb dX12_deepest_110 hl (k := 2) rfl (by rfl) (by decide) rfl (fun ls hl => ?_)
      refine lv_goto (tgt := 91) hx hb dX12_deepest_113 (by decide) ?_
      exact ih _ _ hf _ _ _ hP hS (lv_sub hl [1, 2, 0] rfl)

set_option maxHeartbeats 4000000 in
set_option maxRecDepth 100000 in
theorem wX12_deepest_j168 {p : Program} {l : Launch} {e : Env} {s : State} {m : MethodId} {args : Array Value} {below : List Frame} {meth : Method} {c : Code} {B : Nat} {D : va_G} {E : Nat → ClassId} (hX : hs_cx cX12_deepest (some .int) 4 RX12 wcX12_deepest p s m args meth c D E) {Q : State → Prop} {o : Int32 × hs_S} {rec : Int32 → Int32 → hs_S → Option (Int32 × hs_S)} {v0 : Nat} {v1 : Int32} {v3 : Int32} {s0 : Int32}  (hrec : ∀ (y0 : Int32) (y1 : Int32) (g : hs_S) (H : Heap) (locs : List Loc) (ls : Array Slot), rec y0 y1 g = some o → hs_P B D E g H → hs_Sx B s.heap H locs → lv_has ls 4 [(0, .ref (B + v0)), (1, .int v1), (2, .int y0), (3, .int y1)] → W p l e rmX12_deepest s m args below meth c H locs 0 0 Q (F0 m 126 ls [])) (hex0 : ∀ (H : Heap) (locs : List Loc) (ls : Array Slot), hs_P B D E (o.2) H → hs_Sx B s.heap H locs → lv_has ls 4 [(2, .int (o.1))] → W p l e rmX12_deepest s m args below meth c H locs 0 0 Q (F0 m 175 ls [])) {g : hs_S} {H : Heap} {locs : List Loc} {ls : Array Slot} (hf : jX12_deepest_168 rec v0 v1 v3 s0 g = some o) (hP : hs_P B D E g H) (hS : hs_Sx B s.heap H locs) (hl : lv_has ls 4 [(0, .ref (B + v0)), (1, .int v1), (3, .int v3)]) : W p l e rmX12_deepest s m args below meth c H locs 0 0 Q (F0 m 168 ls [.int s0]) := by
  obtain ⟨hx, hb, hr, hml, hown, hts, hlocks, hK⟩ := id hX
  unfold jX12_deepest_168 at hf
  refine lv_istore_n (lv' := [(2, .int s0), (0, .ref (B + v0)), (1, .int v1), (3, .int v3)]) hx hb dX12_deepest_168 rfl hl (by decide) rfl (fun ls hl => ?_)
  refine lv_iinc (v := (v3 + (1 : Int32))) (lv' := [(3, .int (v3 + (1 : Int32))), (2, .int s0), (0, .ref (B + v0)), (1, .int v1)]) hx hb dX12_deepest_169 hl (k := 3) rfl (by rfl) (by decide) rfl (fun ls hl => ?_)
  refine lv_goto (tgt := 126) hx hb dX12_deepest_172 (by decide) ?_
  exact hrec _ _ _ _ _ _ hf hP hS (lv_sub hl [2, 3, 1, 0] rfl)

set_option maxHeartbeats 4000000 in
set_option maxRecDepth 100000 in
theorem wX12_deepest_126 {p : Program} {l : Launch} {e : Env} {s : State} {m : MethodId} {args : Array Value} {below : List Frame} {meth : Method} {c : Code} {B : Nat} {D : va_G} {E : Nat → ClassId} (hX : hs_cx cX12_deepest (some .int) 4 RX12 wcX12_deepest p s m args meth c D E) {Q : State → Prop} {o : Int32 × hs_S} {v0 : Nat} {v1 : Int32} (hex0 : ∀ (H : Heap) (locs : List Loc) (ls : Array Slot), hs_P B D E (o.2) H → hs_Sx B s.heap H locs → lv_has ls 4 [(2, .int (o.1))] → W p l e rmX12_deepest s m args below meth c H locs 0 0 Q (F0 m 175 ls [])) : ∀ (n : Nat) (v2 : Int32) (v3 : Int32) (g : hs_S), lX12_deepest_126 n v0 v1 v2 v3 g = some o → ∀ (H : Heap) (locs : List Loc) (ls : Array Slot), hs_P B D E g H → hs_Sx B s.heap H locs → lv_has ls 4 [(0, .ref (B + v0)), (1, .int v1), (2, .int v2), (3, .int v3)] → W p l e rmX12_deepest s m args below meth c H locs 0 0 Q (F0 m 126 ls []) := by
  obtain ⟨hx, hb, hr, hml, hown, hts, hlocks, hK⟩ := id hX
  intro n
  induction n with
  | zero =>
    intro v2 v3 g hf
    cases hf
  | succ n ih =>
    intro v2 v3 g hf H locs ls hP hS hl
    replace hf := (lX12_deepest_126_s n v0 v1 v2 v3 g).symm.trans hf
    refine lv_iload_n hx hb dX12_deepest_126 rfl (lv_at hl 3 rfl) ?_
    refine lv_aload_n hx hb dX12_deepest_127 rfl (lv_at hl 0 rfl) ?_
    obtain ⟨h119, hf⟩ := hs_ck hf
    obtain ⟨h120, hf⟩ := hs_ck hf
    refine hs_getr (C := RX12) (T := TX12) (N := 48) hx hb hts (fun w h => List.mem_cons_of_mem _ (inlX12 w h)) hown hK.1 hP h119 (by decide) rfl 7 (by decide) (hts _ (List.mem_cons_of_mem _ wq125)) (fun _ h => h) rfl h120 dX12_deepest_128 ?_
    refine lv_iload_n hx hb dX12_deepest_131 rfl (lv_at hl 1 rfl) ?_
    obtain ⟨h121, hf⟩ := hs_ck hf
    obtain ⟨h122, hf⟩ := hs_ck hf
    refine hs_iald hx hb hK.1 hP h121 h122 dX12_deepest_132 ?_
    refine lv_icmp_ge (tgt := 175) hx hb dX12_deepest_133 (by decide) (fun hc => ?_) (fun hc => ?_)
    · replace hf := hs_t hf hc
      obtain rfl := Option.some.inj hf
      exact hex0 _ _ _ hP hS (lv_sub hl [2] rfl)
    · replace hf := hs_f hf hc
      refine lv_aload_n hx hb dX12_deepest_136 rfl (lv_at hl 0 rfl) ?_
      obtain ⟨h123, hf⟩ := hs_ck hf
      refine hs_getr (C := RX12) (T := TX12) (N := 48) hx hb hts (fun w h => List.mem_cons_of_mem _ (inlX12 w h)) hown hK.1 hP h119 (by decide) rfl 13 (by decide) (hts _ (List.mem_cons_of_mem _ wq132)) (fun _ h => h) rfl h123 dX12_deepest_137 ?_
      refine lv_sipush (v := 2001) hx hb dX12_deepest_140 (by decide) ?_
      refine lv_iload_n hx hb dX12_deepest_143 rfl (lv_at hl 1 rfl) ?_
      refine lv_imul hx hb dX12_deepest_144 ?_
      refine lv_iload_n hx hb dX12_deepest_145 rfl (lv_at hl 3 rfl) ?_
      refine lv_iadd hx hb dX12_deepest_146 ?_
      obtain ⟨h124, hf⟩ := hs_ck hf
      obtain ⟨h125, hf⟩ := hs_ck hf
      refine hs_iald hx hb hK.1 hP h124 h125 dX12_deepest_147 ?_
      refine lv_iload_n hx hb dX12_deepest_148 rfl (lv_at hl 2 rfl) ?_
      refine lv_icmp_le (tgt := 167) hx hb dX12_deepest_149 (by decide) (fun hc => ?_) (fun hc => ?_)
      · replace hf := hs_t hf hc
        refine lv_iload_n hx hb dX12_deepest_167 rfl (lv_at hl 2 rfl) ?_
        exact wX12_deepest_j168 hX (fun z0 z1 g H locs ls hf hP hS hl => ih z0 z1 g hf H locs ls hP hS hl) hex0 hf hP hS (lv_sub hl [0, 1, 3] rfl)
      · replace hf := hs_f hf hc
        refine lv_aload_n hx hb dX12_deepest_152 rfl (lv_at hl 0 rfl) ?_
        refine hs_getr (C := RX12) (T := TX12) (N := 48) hx hb hts (fun w h => List.mem_cons_of_mem _ (inlX12 w h)) hown hK.1 hP h119 (by decide) rfl 13 (by decide) (hts _ (List.mem_cons_of_mem _ wq132)) (fun _ h => h) rfl h123 dX12_deepest_153 ?_
        refine lv_sipush (v := 2001) hx hb dX12_deepest_156 (by decide) ?_
        refine lv_iload_n hx hb dX12_deepest_159 rfl (lv_at hl 1 rfl) ?_
        refine lv_imul hx hb dX12_deepest_160 ?_
        refine lv_iload_n hx hb dX12_deepest_161 rfl (lv_at hl 3 rfl) ?_
        refine lv_iadd hx hb dX12_deepest_162 ?_
        refine hs_iald hx hb hK.1 hP h124 h125 dX12_deepest_163 ?_
        refine lv_goto (tgt := 168) hx hb dX12_deepest_164 (by decide) ?_
        exact wX12_deepest_j168 hX (fun z0 z1 g H locs ls hf hP hS hl => ih z0 z1 g hf H locs ls hP hS hl) hex0 hf hP hS (lv_sub hl [0, 1, 3] rfl)

set_option maxHeartbeats 4000000 in
set_option maxRecDepth 100000 in
theorem ctX12_deepest (l : Launch) (B : Nat) (D : va_G) (E : Nat → ClassId) (v0 : Nat) (v1 : Int32) (g : hs_S) (o : Int32 × hs_S) (hf : fX12_deepest v0 v1 g = some o) : Met l yX12_deepest wcX12_deepest rmX12_deepest (hs_Pc B D E g [.ref (B + v0), .int v1]) (hs_Qi B D E o) (0) (0) (hs_F B) := by
  refine Met.ofW (cc := cX12_deepest) (maxL := 4) (ret := (some .int)) (by decide) rfl ?_
  intro p e s m args below meth c s₁ Bd hml hv
  obtain ⟨rfl, hP, hK⟩ := hv
  have hx := Bd.exec
  have hb := Bd.bytes
  have hr := Bd.returns
  have hts := atoms_spec (ws := wcX12_deepest) Bd.pre
  have hown : s.vm.findClass RX12 = some m.cls := findClass_of_methodNamed Bd.named
  have hlocks := Bd.notSynchronized
  have hS : hs_Sx B s.heap s.heap [] := va_S.rf
  have hX : hs_cx cX12_deepest (some .int) 4 RX12 wcX12_deepest p s m (List.toArray [.ref (B + v0), .int v1]) meth c D E := ⟨hx, hb, hr, hml, hown, hts, hlocks, hK⟩
  have hl := lv_entry ([.ref (B + v0), .int v1]) (n := 4) (Nat.le_of_ble_eq_true rfl)
  rw [lg_entry_eq]
  generalize (lg_sl ([.ref (B + v0), .int v1]) ++ List.replicate (4 - (lg_sl ([.ref (B + v0), .int v1])).length) Slot.unset).toArray = ls at hl ⊢
  have hl : lv_has ls 4 [(0, .ref (B + v0)), (1, .int v1)] := hl
  have hP : hs_P B D E g s.heap := hP
  unfold fX12_deepest at hf
  refine lv_iconst (v := 0) hx hb dX12_deepest_0 (by decide) ?_
  refine lv_istore_n (lv' := [(2, .int (0 : Int32)), (0, .ref (B + v0)), (1, .int v1)]) hx hb dX12_deepest_1 rfl hl (by decide) rfl (fun ls hl => ?_)
  obtain ⟨g79, h80, hf⟩ := hs_bv_some hf
  refine wX12_deepest_2 hX (fun H locs ls hP hS hl => ?_) hs_N _ _ h80 _ _ _ hP hS (lv_sub hl [1, 2, 0] rfl)
  refine lv_iconst (v := 0) hx hb dX12_deepest_62 (by decide) ?_
  refine lv_istore_n (lv' := [(2, .int (0 : Int32)), (0, .ref (B + v0)), (1, .int v1)]) hx hb dX12_deepest_63 rfl hl (by decide) rfl (fun ls hl => ?_)
  obtain ⟨g96, h97, hf⟩ := hs_bv_some hf
  refine wX12_deepest_64 hX (fun H locs ls hP hS hl => ?_) hs_N _ _ h97 _ _ _ hP hS (lv_sub hl [1, 2, 0] rfl)
  refine lv_iconst (v := 0) hx hb dX12_deepest_89 (by decide) ?_
  refine lv_istore_n (lv' := [(2, .int (0 : Int32)), (0, .ref (B + v0)), (1, .int v1)]) hx hb dX12_deepest_90 rfl hl (by decide) rfl (fun ls hl => ?_)
  obtain ⟨g113, h114, hf⟩ := hs_bv_some hf
  refine wX12_deepest_91 hX (fun H locs ls hP hS hl => ?_) hs_N _ _ h114 _ _ _ hP hS (lv_sub hl [1, 2, 0] rfl)
  refine lv_aload_n hx hb dX12_deepest_116 rfl (lv_at hl 0 rfl) ?_
  refine lv_iload_n hx hb dX12_deepest_117 rfl (lv_at hl 1 rfl) ?_
  obtain ⟨h115, hf⟩ := hs_ck hf
  obtain ⟨r117, g116, h118, hf⟩ := hs_bd_some hf
  refine hs_calli (va_runV (As := [.int v1]) (rest := []) ⟨hx, hb, hml, hown, hts⟩ (ctX12_stacks l B D E v0 v1 g113 _ h118) (cwV 1 hts (hs_gV (fun _ h => List.mem_cons_of_mem _ h) wq443 wq444 wq445 wq5 wq446) rfl rfl rfl (by decide +kernel) ⟨Nat.le_of_ble_eq_true rfl, Nat.le_of_ble_eq_true rfl⟩) (hs_preV (r := (RX12, TX12, 48)) hP hK h115 (by decide) rfl) rfl rfl hl.1 rfl (lv_room (Nat.le_of_ble_eq_true rfl)) dX12_deepest_118 ⟨(Nat.le_of_ble_eq_true rfl), (Nat.le_of_ble_eq_true rfl)⟩) hS (fun H locs hP hS => ?_)
  refine lv_pop hx hb dX12_deepest_121 rfl ?_
  refine lv_iconst (v := 0) hx hb dX12_deepest_122 (by decide) ?_
  refine lv_istore_n (lv' := [(2, .int (0 : Int32)), (0, .ref (B + v0)), (1, .int v1)]) hx hb dX12_deepest_123 rfl hl (by decide) rfl (fun ls hl => ?_)
  refine lv_iconst (v := 0) hx hb dX12_deepest_124 (by decide) ?_
  refine lv_istore_n (lv' := [(3, .int (0 : Int32)), (2, .int (0 : Int32)), (0, .ref (B + v0)), (1, .int v1)]) hx hb dX12_deepest_125 rfl hl (by decide) rfl (fun ls hl => ?_)
  obtain ⟨x126, g128, h129, hf⟩ := hs_bd_some hf
  refine wX12_deepest_126 hX (fun H locs ls hP hS hl => ?_) hs_N _ _ _ h129 _ _ _ hP hS (lv_sub hl [2, 3, 1, 0] rfl)
  refine lv_iload_n hx hb dX12_deepest_175 rfl (lv_at hl 0 rfl) ?_
  exact hs_iret hx hb hr hlocks rfl hK hP hS hf dX12_deepest_176

theorem dX12_told_0 : decode cX12_told 0 = .ok (.iload_n 2, 1) := by decide +kernel
theorem dX12_told_1 : decode cX12_told 1 = .ok (.ifCond .eq 13, 3) := by decide +kernel
theorem dX12_told_4 : decode cX12_told 4 = .ok (.aload_n 0, 1) := by decide +kernel
theorem dX12_told_5 : decode cX12_told 5 = .ok (.getfield 195, 3) := by decide +kernel
theorem dX12_told_8 : decode cX12_told 8 = .ok (.ifCond .ne 16, 3) := by decide +kernel
theorem dX12_told_11 : decode cX12_told 11 = .ok (.goto 10, 3) := by decide +kernel
theorem dX12_told_14 : decode cX12_told 14 = .ok (.aload_n 0, 1) := by decide +kernel
theorem dX12_told_15 : decode cX12_told 15 = .ok (.getfield 191, 3) := by decide +kernel
theorem dX12_told_18 : decode cX12_told 18 = .ok (.ifCond .ne 6, 3) := by decide +kernel
theorem dX12_told_21 : decode cX12_told 21 = .ok (.bipush (-2), 2) := by decide +kernel
theorem dX12_told_23 : decode cX12_told 23 = .ok (.ireturn, 1) := by decide +kernel
theorem dX12_told_24 : decode cX12_told 24 = .ok (.iload_n 1, 1) := by decide +kernel
theorem dX12_told_25 : decode cX12_told 25 = .ok (.ifCond .lt 20, 3) := by decide +kernel
theorem dX12_told_28 : decode cX12_told 28 = .ok (.iload_n 1, 1) := by decide +kernel
theorem dX12_told_29 : decode cX12_told 29 = .ok (.aload_n 0, 1) := by decide +kernel
theorem dX12_told_30 : decode cX12_told 30 = .ok (.getfield 188, 3) := by decide +kernel
theorem dX12_told_33 : decode cX12_told 33 = .ok (.if_icmp .ge 12, 3) := by decide +kernel
theorem dX12_told_36 : decode cX12_told 36 = .ok (.iload_n 3, 1) := by decide +kernel
theorem dX12_told_37 : decode cX12_told 37 = .ok (.ifCond .lt 8, 3) := by decide +kernel
theorem dX12_told_40 : decode cX12_told 40 = .ok (.iload_n 3, 1) := by decide +kernel
theorem dX12_told_41 : decode cX12_told 41 = .ok (.iconst 5, 1) := by decide +kernel
theorem dX12_told_42 : decode cX12_told 42 = .ok (.if_icmp .le 6, 3) := by decide +kernel
theorem dX12_told_45 : decode cX12_told 45 = .ok (.bipush (-3), 2) := by decide +kernel
theorem dX12_told_47 : decode cX12_told 47 = .ok (.ireturn, 1) := by decide +kernel
theorem dX12_told_48 : decode cX12_told 48 = .ok (.iload_n 3, 1) := by decide +kernel
theorem dX12_told_49 : decode cX12_told 49 = .ok (.tableswitch 105 0 4 #[35, 55, 61, 68, 83], 35) := by decide +kernel
theorem dX12_told_84 : decode cX12_told 84 = .ok (.iload_n 2, 1) := by decide +kernel
theorem dX12_told_85 : decode cX12_told 85 = .ok (.ifCond .eq 12, 3) := by decide +kernel
theorem dX12_told_88 : decode cX12_told 88 = .ok (.aload_n 0, 1) := by decide +kernel
theorem dX12_told_89 : decode cX12_told 89 = .ok (.getfield 72, 3) := by decide +kernel
theorem dX12_told_92 : decode cX12_told 92 = .ok (.iload_n 1, 1) := by decide +kernel
theorem dX12_told_93 : decode cX12_told 93 = .ok (.iaload, 1) := by decide +kernel
theorem dX12_told_94 : decode cX12_told 94 = .ok (.goto 9, 3) := by decide +kernel
theorem dX12_told_97 : decode cX12_told 97 = .ok (.aload_n 0, 1) := by decide +kernel
theorem dX12_told_98 : decode cX12_told 98 = .ok (.getfield 23, 3) := by decide +kernel
theorem dX12_told_101 : decode cX12_told 101 = .ok (.iload_n 1, 1) := by decide +kernel
theorem dX12_told_102 : decode cX12_told 102 = .ok (.iaload, 1) := by decide +kernel
theorem dX12_told_103 : decode cX12_told 103 = .ok (.ireturn, 1) := by decide +kernel
theorem dX12_told_104 : decode cX12_told 104 = .ok (.aload_n 0, 1) := by decide +kernel
theorem dX12_told_105 : decode cX12_told 105 = .ok (.iload_n 1, 1) := by decide +kernel
theorem dX12_told_106 : decode cX12_told 106 = .ok (.invokevirtual 211, 3) := by decide +kernel
theorem dX12_told_109 : decode cX12_told 109 = .ok (.ireturn, 1) := by decide +kernel
theorem dX12_told_110 : decode cX12_told 110 = .ok (.aload_n 0, 1) := by decide +kernel
theorem dX12_told_111 : decode cX12_told 111 = .ok (.getfield 26, 3) := by decide +kernel
theorem dX12_told_114 : decode cX12_told 114 = .ok (.iload_n 1, 1) := by decide +kernel
theorem dX12_told_115 : decode cX12_told 115 = .ok (.iaload, 1) := by decide +kernel
theorem dX12_told_116 : decode cX12_told 116 = .ok (.ireturn, 1) := by decide +kernel
theorem dX12_told_117 : decode cX12_told 117 = .ok (.iload_n 2, 1) := by decide +kernel
theorem dX12_told_118 : decode cX12_told 118 = .ok (.ifCond .eq 12, 3) := by decide +kernel
theorem dX12_told_121 : decode cX12_told 121 = .ok (.aload_n 0, 1) := by decide +kernel
theorem dX12_told_122 : decode cX12_told 122 = .ok (.getfield 78, 3) := by decide +kernel
theorem dX12_told_125 : decode cX12_told 125 = .ok (.iload_n 1, 1) := by decide +kernel
theorem dX12_told_126 : decode cX12_told 126 = .ok (.iaload, 1) := by decide +kernel
theorem dX12_told_127 : decode cX12_told 127 = .ok (.goto 4, 3) := by decide +kernel
theorem dX12_told_130 : decode cX12_told 130 = .ok (.iconst 0, 1) := by decide +kernel
theorem dX12_told_131 : decode cX12_told 131 = .ok (.ireturn, 1) := by decide +kernel
theorem dX12_told_132 : decode cX12_told 132 = .ok (.aload_n 0, 1) := by decide +kernel
theorem dX12_told_133 : decode cX12_told 133 = .ok (.iload_n 1, 1) := by decide +kernel
theorem dX12_told_134 : decode cX12_told 134 = .ok (.iload_n 2, 1) := by decide +kernel
theorem dX12_told_135 : decode cX12_told 135 = .ok (.invokevirtual 239, 3) := by decide +kernel
theorem dX12_told_138 : decode cX12_told 138 = .ok (.iload_n 2, 1) := by decide +kernel
theorem dX12_told_139 : decode cX12_told 139 = .ok (.ifCond .eq 12, 3) := by decide +kernel
theorem dX12_told_142 : decode cX12_told 142 = .ok (.aload_n 0, 1) := by decide +kernel
theorem dX12_told_143 : decode cX12_told 143 = .ok (.getfield 78, 3) := by decide +kernel
theorem dX12_told_146 : decode cX12_told 146 = .ok (.iload_n 1, 1) := by decide +kernel
theorem dX12_told_147 : decode cX12_told 147 = .ok (.iaload, 1) := by decide +kernel
theorem dX12_told_148 : decode cX12_told 148 = .ok (.goto 4, 3) := by decide +kernel
theorem dX12_told_151 : decode cX12_told 151 = .ok (.iconst 0, 1) := by decide +kernel
theorem dX12_told_152 : decode cX12_told 152 = .ok (.isub, 1) := by decide +kernel
theorem dX12_told_153 : decode cX12_told 153 = .ok (.ireturn, 1) := by decide +kernel
theorem dX12_told_154 : decode cX12_told 154 = .ok (.iload_n 2, 1) := by decide +kernel
theorem dX12_told_155 : decode cX12_told 155 = .ok (.ifCond .eq 7, 3) := by decide +kernel
theorem dX12_told_158 : decode cX12_told 158 = .ok (.iconst (-1), 1) := by decide +kernel
theorem dX12_told_159 : decode cX12_told 159 = .ok (.goto 8, 3) := by decide +kernel
theorem dX12_told_162 : decode cX12_told 162 = .ok (.aload_n 0, 1) := by decide +kernel
theorem dX12_told_163 : decode cX12_told 163 = .ok (.iload_n 1, 1) := by decide +kernel
theorem dX12_told_164 : decode cX12_told 164 = .ok (.invokevirtual 242, 3) := by decide +kernel
theorem dX12_told_167 : decode cX12_told 167 = .ok (.ireturn, 1) := by decide +kernel
abbrev wcX12_told : List Cond := .code yX12_told cX12_told 4 (some .int) :: wsL_law
def jX12_told_24 (v0 : Nat) (v1 : Int32) (v2 : Int32) (v3 : Int32) (g : hs_S) : Option (Int32 × hs_S) :=
  if v1 < 0 then (
    some ((-3 : Int32), g)
  ) else (
    if hs_kd g v0 = 10 then
    if (hs_I g v0 4) ≤ v1 then (
      some ((-3 : Int32), g)
    ) else (
      if v3 < 0 then (
        some ((-3 : Int32), g)
      ) else (
        if v3 ≤ (5 : Int32) then (
          if v3 = (0 : Int32) then (
            if v2 = 0 then (
              if ¬ (hs_R g v0 7) = 0 then
              if hs_kd g ((hs_R g v0 7) - 1) = 100 then
              if hs_in v1 (hs_ln g ((hs_R g v0 7) - 1)) = true then
              some ((hs_I g ((hs_R g v0 7) - 1) v1.toNatClampNeg), g)
              else none else none else none
            ) else (
              if ¬ (hs_R g v0 24) = 0 then
              if hs_kd g ((hs_R g v0 24) - 1) = 100 then
              if hs_in v1 (hs_ln g ((hs_R g v0 24) - 1)) = true then
              some ((hs_I g ((hs_R g v0 24) - 1) v1.toNatClampNeg), g)
              else none else none else none
            )
          ) else (
          if v3 = (1 : Int32) then (
            hs_bd (fX12_countBlocks v0 v1 g) fun r10 g9 =>
            some (r10, g9)
          ) else (
          if v3 = (2 : Int32) then (
            if ¬ (hs_R g v0 8) = 0 then
            if hs_kd g ((hs_R g v0 8) - 1) = 100 then
            if hs_in v1 (hs_ln g ((hs_R g v0 8) - 1)) = true then
            some ((hs_I g ((hs_R g v0 8) - 1) v1.toNatClampNeg), g)
            else none else none else none
          ) else (
          if v3 = (3 : Int32) then (
            if v2 = 0 then (
              some ((0 : Int32), g)
            ) else (
              if ¬ (hs_R g v0 26) = 0 then
              if hs_kd g ((hs_R g v0 26) - 1) = 100 then
              if hs_in v1 (hs_ln g ((hs_R g v0 26) - 1)) = true then
              some ((hs_I g ((hs_R g v0 26) - 1) v1.toNatClampNeg), g)
              else none else none else none
            )
          ) else (
          if v3 = (4 : Int32) then (
            hs_bd (fX12_longJumps v0 v1 v2 g) fun r19 g18 =>
            if v2 = 0 then (
              some ((r19 - (0 : Int32)), g18)
            ) else (
              if hs_kd g18 v0 = 10 then
              if ¬ (hs_R g18 v0 26) = 0 then
              if hs_kd g18 ((hs_R g18 v0 26) - 1) = 100 then
              if hs_in v1 (hs_ln g18 ((hs_R g18 v0 26) - 1)) = true then
              some ((r19 - (hs_I g18 ((hs_R g18 v0 26) - 1) v1.toNatClampNeg)), g18)
              else none else none else none else none
            )
          ) else (
            if v2 = 0 then (
              hs_bd (fX12_deepest v0 v1 g) fun r26 g25 =>
              some (r26, g25)
            ) else (
              some ((-1 : Int32), g)
            )
          )))))
        ) else (
          some ((-3 : Int32), g)
        )
      )
    )
    else none
  )
def fX12_told (v0 : Nat) (v1 : Int32) (v2 : Int32) (v3 : Int32) (g : hs_S) : Option (Int32 × hs_S) :=
  if v2 = 0 then (
    if hs_kd g v0 = 10 then
    if (hs_I g v0 3) = 0 then (
      some ((-2 : Int32), g)
    ) else (
      jX12_told_24 v0 v1 v2 v3 g
    )
    else none
  ) else (
    if hs_kd g v0 = 10 then
    if (hs_I g v0 22) = 0 then (
      some ((-2 : Int32), g)
    ) else (
      jX12_told_24 v0 v1 v2 v3 g
    )
    else none
  )
abbrev rmX12_told : Room := { frames := 5, cells := 0, slots := 0, locals := 120 }
set_option maxHeartbeats 4000000 in
set_option maxRecDepth 100000 in
theorem wX12_told_j24 {p : Program} {l : Launch} {e : Env} {s : State} {m : MethodId} {args : Array Value} {below : List Frame} {meth : Method} {c : Code} {B : Nat} {D : va_G} {E : Nat → ClassId} (hX : hs_cx cX12_told (some .int) 4 RX12 wcX12_told p s m args meth c D E) {o : Int32 × hs_S}  {v0 : Nat} {v1 : Int32} {v2 : Int32} {v3 : Int32}   {g : hs_S} {H : Heap} {locs : List Loc} {ls : Array Slot} (hf : jX12_told_24 v0 v1 v2 v3 g = some o) (hP : hs_P B D E g H) (hS : hs_Sx B s.heap H locs) (hl : lv_has ls 4 [(0, .ref (B + v0)), (1, .int v1), (2, .int v2), (3, .int v3)]) : W p l e rmX12_told s m args below meth c H locs 0 0 (MQ below (hs_Qi B D E o) args s 0 0 (hs_F B)) (F0 m 24 ls []) := by
  obtain ⟨hx, hb, hr, hml, hown, hts, hlocks, hK⟩ := id hX
  unfold jX12_told_24 at hf
  refine lv_iload_n hx hb dX12_told_24 rfl (lv_at hl 1 rfl) ?_
  refine lv_if_lt (tgt := 45) hx hb dX12_told_25 (by decide) (fun hc => ?_) (fun hc => ?_)
  · replace hf := hs_t hf hc
    refine lv_bipush (v := -3) hx hb dX12_told_45 (by decide) ?_
    exact hs_iret hx hb hr hlocks rfl hK hP hS hf dX12_told_47
  · replace hf := hs_f hf hc
    refine lv_iload_n hx hb dX12_told_28 rfl (lv_at hl 1 rfl) ?_
    refine lv_aload_n hx hb dX12_told_29 rfl (lv_at hl 0 rfl) ?_
    obtain ⟨h2, hf⟩ := hs_ck hf
    refine hs_geti (C := RX12) (T := TX12) (N := 48) hx hb hts (fun w h => List.mem_cons_of_mem _ (inlX12 w h)) hown hK.1 hP h2 (by decide) rfl 4 (by decide) (hts _ (List.mem_cons_of_mem _ wq392)) (fun _ h => h) rfl dX12_told_30 ?_
    refine lv_icmp_ge (tgt := 45) hx hb dX12_told_33 (by decide) (fun hc => ?_) (fun hc => ?_)
    · replace hf := hs_t hf hc
      refine lv_bipush (v := -3) hx hb dX12_told_45 (by decide) ?_
      exact hs_iret hx hb hr hlocks rfl hK hP hS hf dX12_told_47
    · replace hf := hs_f hf hc
      refine lv_iload_n hx hb dX12_told_36 rfl (lv_at hl 3 rfl) ?_
      refine lv_if_lt (tgt := 45) hx hb dX12_told_37 (by decide) (fun hc => ?_) (fun hc => ?_)
      · replace hf := hs_t hf hc
        refine lv_bipush (v := -3) hx hb dX12_told_45 (by decide) ?_
        exact hs_iret hx hb hr hlocks rfl hK hP hS hf dX12_told_47
      · replace hf := hs_f hf hc
        refine lv_iload_n hx hb dX12_told_40 rfl (lv_at hl 3 rfl) ?_
        refine lv_iconst (v := 5) hx hb dX12_told_41 (by decide) ?_
        refine lv_icmp_le (tgt := 48) hx hb dX12_told_42 (by decide) (fun hc => ?_) (fun hc => ?_)
        · replace hf := hs_t hf hc
          refine lv_iload_n hx hb dX12_told_48 rfl (lv_at hl 3 rfl) ?_
          by_cases hc : v3 = (0 : Int32)
          · replace hf := hs_t hf hc
            refine lv_tableIn (off := 35) (tgt := 84) hx hb dX12_told_49 (by rw [hc]; decide +kernel) (by rw [hc]; decide +kernel) (by rw [hc]; first | done | decide +kernel) (by decide) ?_
            refine lv_iload_n hx hb dX12_told_84 rfl (lv_at hl 2 rfl) ?_
            refine lv_if_eq (tgt := 97) hx hb dX12_told_85 (by decide) (fun hc => ?_) (fun hc => ?_)
            · replace hf := hs_t hf hc
              refine lv_aload_n hx hb dX12_told_97 rfl (lv_at hl 0 rfl) ?_
              obtain ⟨h3, hf⟩ := hs_ck hf
              refine hs_getr (C := RX12) (T := TX12) (N := 48) hx hb hts (fun w h => List.mem_cons_of_mem _ (inlX12 w h)) hown hK.1 hP h2 (by decide) rfl 7 (by decide) (hts _ (List.mem_cons_of_mem _ wq125)) (fun _ h => h) rfl h3 dX12_told_98 ?_
              refine lv_iload_n hx hb dX12_told_101 rfl (lv_at hl 1 rfl) ?_
              obtain ⟨h4, hf⟩ := hs_ck hf
              obtain ⟨h5, hf⟩ := hs_ck hf
              refine hs_iald hx hb hK.1 hP h4 h5 dX12_told_102 ?_
              exact hs_iret hx hb hr hlocks rfl hK hP hS hf dX12_told_103
            · replace hf := hs_f hf hc
              refine lv_aload_n hx hb dX12_told_88 rfl (lv_at hl 0 rfl) ?_
              obtain ⟨h6, hf⟩ := hs_ck hf
              refine hs_getr (C := RX12) (T := TX12) (N := 48) hx hb hts (fun w h => List.mem_cons_of_mem _ (inlX12 w h)) hown hK.1 hP h2 (by decide) rfl 24 (by decide) (hts _ (List.mem_cons_of_mem _ wq142)) (fun _ h => h) rfl h6 dX12_told_89 ?_
              refine lv_iload_n hx hb dX12_told_92 rfl (lv_at hl 1 rfl) ?_
              obtain ⟨h7, hf⟩ := hs_ck hf
              obtain ⟨h8, hf⟩ := hs_ck hf
              refine hs_iald hx hb hK.1 hP h7 h8 dX12_told_93 ?_
              refine lv_goto (tgt := 103) hx hb dX12_told_94 (by decide) ?_
              exact hs_iret hx hb hr hlocks rfl hK hP hS hf dX12_told_103
          have hn0 := hc
          replace hf := hs_f hf hc
          clear hc
          by_cases hc : v3 = (1 : Int32)
          · replace hf := hs_t hf hc
            refine lv_tableIn (off := 55) (tgt := 104) hx hb dX12_told_49 (by rw [hc]; decide +kernel) (by rw [hc]; decide +kernel) (by rw [hc]; first | done | decide +kernel) (by decide) ?_
            refine lv_aload_n hx hb dX12_told_104 rfl (lv_at hl 0 rfl) ?_
            refine lv_iload_n hx hb dX12_told_105 rfl (lv_at hl 1 rfl) ?_
            obtain ⟨r10, g9, h11, hf⟩ := hs_bd_some hf
            refine hs_calli (va_runV (As := [.int v1]) (rest := []) ⟨hx, hb, hml, hown, hts⟩ (ctX12_countBlocks l B D E v0 v1 g _ h11) (cwV 1 hts (hs_gV (fun _ h => List.mem_cons_of_mem _ h) wq646 wq647 wq648 wq5 wq649) rfl rfl rfl (by decide +kernel) ⟨Nat.le_of_ble_eq_true rfl, Nat.le_of_ble_eq_true rfl⟩) (hs_preV (r := (RX12, TX12, 48)) hP hK h2 (by decide) rfl) rfl rfl hl.1 rfl (lv_room (Nat.le_of_ble_eq_true rfl)) dX12_told_106 ⟨(Nat.le_of_ble_eq_true rfl), (Nat.le_of_ble_eq_true rfl)⟩) hS (fun H locs hP hS => ?_)
            exact hs_iret hx hb hr hlocks rfl hK hP hS hf dX12_told_109
          have hn1 := hc
          replace hf := hs_f hf hc
          clear hc
          by_cases hc : v3 = (2 : Int32)
          · replace hf := hs_t hf hc
            refine lv_tableIn (off := 61) (tgt := 110) hx hb dX12_told_49 (by rw [hc]; decide +kernel) (by rw [hc]; decide +kernel) (by rw [hc]; first | done | decide +kernel) (by decide) ?_
            refine lv_aload_n hx hb dX12_told_110 rfl (lv_at hl 0 rfl) ?_
            obtain ⟨h12, hf⟩ := hs_ck hf
            refine hs_getr (C := RX12) (T := TX12) (N := 48) hx hb hts (fun w h => List.mem_cons_of_mem _ (inlX12 w h)) hown hK.1 hP h2 (by decide) rfl 8 (by decide) (hts _ (List.mem_cons_of_mem _ wq126)) (fun _ h => h) rfl h12 dX12_told_111 ?_
            refine lv_iload_n hx hb dX12_told_114 rfl (lv_at hl 1 rfl) ?_
            obtain ⟨h13, hf⟩ := hs_ck hf
            obtain ⟨h14, hf⟩ := hs_ck hf
            refine hs_iald hx hb hK.1 hP h13 h14 dX12_told_115 ?_
            exact hs_iret hx hb hr hlocks rfl hK hP hS hf dX12_told_116
          have hn2 := hc
          replace hf := hs_f hf hc
          clear hc
          by_cases hc : v3 = (3 : Int32)
          · replace hf := hs_t hf hc
            refine lv_tableIn (off := 68) (tgt := 117) hx hb dX12_told_49 (by rw [hc]; decide +kernel) (by rw [hc]; decide +kernel) (by rw [hc]; first | done | decide +kernel) (by decide) ?_
            refine lv_iload_n hx hb dX12_told_117 rfl (lv_at hl 2 rfl) ?_
            refine lv_if_eq (tgt := 130) hx hb dX12_told_118 (by decide) (fun hc => ?_) (fun hc => ?_)
            · replace hf := hs_t hf hc
              refine lv_iconst (v := 0) hx hb dX12_told_130 (by decide) ?_
              exact hs_iret hx hb hr hlocks rfl hK hP hS hf dX12_told_131
            · replace hf := hs_f hf hc
              refine lv_aload_n hx hb dX12_told_121 rfl (lv_at hl 0 rfl) ?_
              obtain ⟨h15, hf⟩ := hs_ck hf
              refine hs_getr (C := RX12) (T := TX12) (N := 48) hx hb hts (fun w h => List.mem_cons_of_mem _ (inlX12 w h)) hown hK.1 hP h2 (by decide) rfl 26 (by decide) (hts _ (List.mem_cons_of_mem _ wq144)) (fun _ h => h) rfl h15 dX12_told_122 ?_
              refine lv_iload_n hx hb dX12_told_125 rfl (lv_at hl 1 rfl) ?_
              obtain ⟨h16, hf⟩ := hs_ck hf
              obtain ⟨h17, hf⟩ := hs_ck hf
              refine hs_iald hx hb hK.1 hP h16 h17 dX12_told_126 ?_
              refine lv_goto (tgt := 131) hx hb dX12_told_127 (by decide) ?_
              exact hs_iret hx hb hr hlocks rfl hK hP hS hf dX12_told_131
          have hn3 := hc
          replace hf := hs_f hf hc
          clear hc
          by_cases hc : v3 = (4 : Int32)
          · replace hf := hs_t hf hc
            refine lv_tableIn (off := 83) (tgt := 132) hx hb dX12_told_49 (by rw [hc]; decide +kernel) (by rw [hc]; decide +kernel) (by rw [hc]; first | done | decide +kernel) (by decide) ?_
            refine lv_aload_n hx hb dX12_told_132 rfl (lv_at hl 0 rfl) ?_
            refine lv_iload_n hx hb dX12_told_133 rfl (lv_at hl 1 rfl) ?_
            refine lv_iload_n hx hb dX12_told_134 rfl (lv_at hl 2 rfl) ?_
            obtain ⟨r19, g18, h20, hf⟩ := hs_bd_some hf
            refine hs_calli (va_runV (As := [.int v1, .int v2]) (rest := []) ⟨hx, hb, hml, hown, hts⟩ (ctX12_longJumps l B D E v0 v1 v2 g _ h20) (cwV 2 hts (hs_gV (fun _ h => List.mem_cons_of_mem _ h) wq650 wq651 wq652 wq5 wq653) rfl rfl rfl (by decide +kernel) ⟨Nat.le_of_ble_eq_true rfl, Nat.le_of_ble_eq_true rfl⟩) (hs_preV (r := (RX12, TX12, 48)) hP hK h2 (by decide) rfl) rfl rfl hl.1 rfl (lv_room (Nat.le_of_ble_eq_true rfl)) dX12_told_135 ⟨(Nat.le_of_ble_eq_true rfl), (Nat.le_of_ble_eq_true rfl)⟩) hS (fun H locs hP hS => ?_)
            refine lv_iload_n hx hb dX12_told_138 rfl (lv_at hl 2 rfl) ?_
            refine lv_if_eq (tgt := 151) hx hb dX12_told_139 (by decide) (fun hc => ?_) (fun hc => ?_)
            · replace hf := hs_t hf hc
              refine lv_iconst (v := 0) hx hb dX12_told_151 (by decide) ?_
              refine lv_isub hx hb dX12_told_152 ?_
              exact hs_iret hx hb hr hlocks rfl hK hP hS hf dX12_told_153
            · replace hf := hs_f hf hc
              refine lv_aload_n hx hb dX12_told_142 rfl (lv_at hl 0 rfl) ?_
              obtain ⟨h21, hf⟩ := hs_ck hf
              obtain ⟨h22, hf⟩ := hs_ck hf
              refine hs_getr (C := RX12) (T := TX12) (N := 48) hx hb hts (fun w h => List.mem_cons_of_mem _ (inlX12 w h)) hown hK.1 hP h21 (by decide) rfl 26 (by decide) (hts _ (List.mem_cons_of_mem _ wq144)) (fun _ h => h) rfl h22 dX12_told_143 ?_
              refine lv_iload_n hx hb dX12_told_146 rfl (lv_at hl 1 rfl) ?_
              obtain ⟨h23, hf⟩ := hs_ck hf
              obtain ⟨h24, hf⟩ := hs_ck hf
              refine hs_iald hx hb hK.1 hP h23 h24 dX12_told_147 ?_
              refine lv_goto (tgt := 152) hx hb dX12_told_148 (by decide) ?_
              refine lv_isub hx hb dX12_told_152 ?_
              exact hs_iret hx hb hr hlocks rfl hK hP hS hf dX12_told_153
          have hn4 := hc
          replace hf := hs_f hf hc
          clear hc
          refine lv_tableOut (tgt := 154) hx hb dX12_told_49 (by have := lv_neT (a := 0) hn0 rfl; have := lv_neT (a := 1) hn1 rfl; have := lv_neT (a := 2) hn2 rfl; have := lv_neT (a := 3) hn3 rfl; have := lv_neT (a := 4) hn4 rfl; omega) (by decide) ?_
          refine lv_iload_n hx hb dX12_told_154 rfl (lv_at hl 2 rfl) ?_
          refine lv_if_eq (tgt := 162) hx hb dX12_told_155 (by decide) (fun hc => ?_) (fun hc => ?_)
          · replace hf := hs_t hf hc
            refine lv_aload_n hx hb dX12_told_162 rfl (lv_at hl 0 rfl) ?_
            refine lv_iload_n hx hb dX12_told_163 rfl (lv_at hl 1 rfl) ?_
            obtain ⟨r26, g25, h27, hf⟩ := hs_bd_some hf
            refine hs_calli (va_runV (As := [.int v1]) (rest := []) ⟨hx, hb, hml, hown, hts⟩ (ctX12_deepest l B D E v0 v1 g _ h27) (cwV 1 hts (hs_gV (fun _ h => List.mem_cons_of_mem _ h) wq654 wq655 wq656 wq5 wq657) rfl rfl rfl (by decide +kernel) ⟨Nat.le_of_ble_eq_true rfl, Nat.le_of_ble_eq_true rfl⟩) (hs_preV (r := (RX12, TX12, 48)) hP hK h2 (by decide) rfl) rfl rfl hl.1 rfl (lv_room (Nat.le_of_ble_eq_true rfl)) dX12_told_164 ⟨(Nat.le_of_ble_eq_true rfl), (Nat.le_of_ble_eq_true rfl)⟩) hS (fun H locs hP hS => ?_)
            exact hs_iret hx hb hr hlocks rfl hK hP hS hf dX12_told_167
          · replace hf := hs_f hf hc
            refine lv_iconst (v := -1) hx hb dX12_told_158 (by decide) ?_
            refine lv_goto (tgt := 167) hx hb dX12_told_159 (by decide) ?_
            exact hs_iret hx hb hr hlocks rfl hK hP hS hf dX12_told_167
        · replace hf := hs_f hf hc
          refine lv_bipush (v := -3) hx hb dX12_told_45 (by decide) ?_
          exact hs_iret hx hb hr hlocks rfl hK hP hS hf dX12_told_47

set_option maxHeartbeats 4000000 in
set_option maxRecDepth 100000 in
theorem ctX12_told (l : Launch) (B : Nat) (D : va_G) (E : Nat → ClassId) (v0 : Nat) (v1 : Int32) (v2 : Int32) (v3 : Int32) (g : hs_S) (o : Int32 × hs_S) (hf : fX12_told v0 v1 v2 v3 g = some o) : Met l yX12_told wcX12_told rmX12_told (hs_Pc B D E g [.ref (B + v0), .int v1, .int v2, .int v3]) (hs_Qi B D E o) (0) (0) (hs_F B) := by
  refine Met.ofW (cc := cX12_told) (maxL := 4) (ret := (some .int)) (by decide) rfl ?_
  intro p e s m args below meth c s₁ Bd hml hv
  obtain ⟨rfl, hP, hK⟩ := hv
  have hx := Bd.exec
  have hb := Bd.bytes
  have hr := Bd.returns
  have hts := atoms_spec (ws := wcX12_told) Bd.pre
  have hown : s.vm.findClass RX12 = some m.cls := findClass_of_methodNamed Bd.named
  have hlocks := Bd.notSynchronized
  have hS : hs_Sx B s.heap s.heap [] := va_S.rf
  have hX : hs_cx cX12_told (some .int) 4 RX12 wcX12_told p s m (List.toArray [.ref (B + v0), .int v1, .int v2, .int v3]) meth c D E := ⟨hx, hb, hr, hml, hown, hts, hlocks, hK⟩
  have hl := lv_entry ([.ref (B + v0), .int v1, .int v2, .int v3]) (n := 4) (Nat.le_of_ble_eq_true rfl)
  rw [lg_entry_eq]
  generalize (lg_sl ([.ref (B + v0), .int v1, .int v2, .int v3]) ++ List.replicate (4 - (lg_sl ([.ref (B + v0), .int v1, .int v2, .int v3])).length) Slot.unset).toArray = ls at hl ⊢
  have hl : lv_has ls 4 [(0, .ref (B + v0)), (1, .int v1), (2, .int v2), (3, .int v3)] := hl
  have hP : hs_P B D E g s.heap := hP
  unfold fX12_told at hf
  refine lv_iload_n hx hb dX12_told_0 rfl (lv_at hl 2 rfl) ?_
  refine lv_if_eq (tgt := 14) hx hb dX12_told_1 (by decide) (fun hc => ?_) (fun hc => ?_)
  · replace hf := hs_t hf hc
    refine lv_aload_n hx hb dX12_told_14 rfl (lv_at hl 0 rfl) ?_
    obtain ⟨h1, hf⟩ := hs_ck hf
    refine hs_geti (C := RX12) (T := TX12) (N := 48) hx hb hts (fun w h => List.mem_cons_of_mem _ (inlX12 w h)) hown hK.1 hP h1 (by decide) rfl 3 (by decide) (hts _ (List.mem_cons_of_mem _ wq393)) (fun _ h => h) rfl dX12_told_15 ?_
    refine lv_if_ne (tgt := 24) hx hb dX12_told_18 (by decide) (fun hc => ?_) (fun hc => ?_)
    · replace hf := hs_f hf hc
      exact wX12_told_j24 hX hf hP hS (lv_sub hl [0, 1, 2, 3] rfl)
    · replace hf := hs_t hf hc
      refine lv_bipush (v := -2) hx hb dX12_told_21 (by decide) ?_
      exact hs_iret hx hb hr hlocks rfl hK hP hS hf dX12_told_23
  · replace hf := hs_f hf hc
    refine lv_aload_n hx hb dX12_told_4 rfl (lv_at hl 0 rfl) ?_
    obtain ⟨h28, hf⟩ := hs_ck hf
    refine hs_geti (C := RX12) (T := TX12) (N := 48) hx hb hts (fun w h => List.mem_cons_of_mem _ (inlX12 w h)) hown hK.1 hP h28 (by decide) rfl 22 (by decide) (hts _ (List.mem_cons_of_mem _ wq394)) (fun _ h => h) rfl dX12_told_5 ?_
    refine lv_if_ne (tgt := 24) hx hb dX12_told_8 (by decide) (fun hc => ?_) (fun hc => ?_)
    · replace hf := hs_f hf hc
      exact wX12_told_j24 hX hf hP hS (lv_sub hl [0, 1, 2, 3] rfl)
    · replace hf := hs_t hf hc
      refine lv_goto (tgt := 21) hx hb dX12_told_11 (by decide) ?_
      refine lv_bipush (v := -2) hx hb dX12_told_21 (by decide) ?_
      exact hs_iret hx hb hr hlocks rfl hK hP hS hf dX12_told_23

