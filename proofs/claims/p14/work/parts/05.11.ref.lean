theorem dX12_unwrite_0 : decode cX12_unwrite 0 = .ok (.aload_n 0, 1) := by decide +kernel
theorem dX12_unwrite_1 : decode cX12_unwrite 1 = .ok (.getfield 195, 3) := by decide +kernel
theorem dX12_unwrite_4 : decode cX12_unwrite 4 = .ok (.ifCond .ne 6, 3) := by decide +kernel
theorem dX12_unwrite_7 : decode cX12_unwrite 7 = .ok (.bipush (-2), 2) := by decide +kernel
theorem dX12_unwrite_9 : decode cX12_unwrite 9 = .ok (.ireturn, 1) := by decide +kernel
theorem dX12_unwrite_10 : decode cX12_unwrite 10 = .ok (.iconst 0, 1) := by decide +kernel
theorem dX12_unwrite_11 : decode cX12_unwrite 11 = .ok (.istore_n 1, 1) := by decide +kernel
theorem dX12_unwrite_12 : decode cX12_unwrite 12 = .ok (.iconst 0, 1) := by decide +kernel
theorem dX12_unwrite_13 : decode cX12_unwrite 13 = .ok (.istore_n 2, 1) := by decide +kernel
theorem dX12_unwrite_14 : decode cX12_unwrite 14 = .ok (.iload_n 2, 1) := by decide +kernel
theorem dX12_unwrite_15 : decode cX12_unwrite 15 = .ok (.aload_n 0, 1) := by decide +kernel
theorem dX12_unwrite_16 : decode cX12_unwrite 16 = .ok (.getfield 188, 3) := by decide +kernel
theorem dX12_unwrite_19 : decode cX12_unwrite 19 = .ok (.if_icmp .ge 139, 3) := by decide +kernel
theorem dX12_unwrite_22 : decode cX12_unwrite 22 = .ok (.aload_n 0, 1) := by decide +kernel
theorem dX12_unwrite_23 : decode cX12_unwrite 23 = .ok (.iload_n 2, 1) := by decide +kernel
theorem dX12_unwrite_24 : decode cX12_unwrite 24 = .ok (.iconst 0, 1) := by decide +kernel
theorem dX12_unwrite_25 : decode cX12_unwrite 25 = .ok (.invokevirtual 231, 3) := by decide +kernel
theorem dX12_unwrite_28 : decode cX12_unwrite 28 = .ok (.istore_n 3, 1) := by decide +kernel
theorem dX12_unwrite_29 : decode cX12_unwrite 29 = .ok (.aload_n 0, 1) := by decide +kernel
theorem dX12_unwrite_30 : decode cX12_unwrite 30 = .ok (.iload_n 2, 1) := by decide +kernel
theorem dX12_unwrite_31 : decode cX12_unwrite 31 = .ok (.iconst 0, 1) := by decide +kernel
theorem dX12_unwrite_32 : decode cX12_unwrite 32 = .ok (.invokevirtual 235, 3) := by decide +kernel
theorem dX12_unwrite_35 : decode cX12_unwrite 35 = .ok (.iload_n 1, 1) := by decide +kernel
theorem dX12_unwrite_36 : decode cX12_unwrite 36 = .ok (.iload_n 3, 1) := by decide +kernel
theorem dX12_unwrite_37 : decode cX12_unwrite 37 = .ok (.iadd, 1) := by decide +kernel
theorem dX12_unwrite_38 : decode cX12_unwrite 38 = .ok (.istore_n 1, 1) := by decide +kernel
theorem dX12_unwrite_39 : decode cX12_unwrite 39 = .ok (.iconst 0, 1) := by decide +kernel
theorem dX12_unwrite_40 : decode cX12_unwrite 40 = .ok (.istore 4, 2) := by decide +kernel
theorem dX12_unwrite_42 : decode cX12_unwrite 42 = .ok (.iload 4, 2) := by decide +kernel
theorem dX12_unwrite_44 : decode cX12_unwrite 44 = .ok (.aload_n 0, 1) := by decide +kernel
theorem dX12_unwrite_45 : decode cX12_unwrite 45 = .ok (.getfield 26, 3) := by decide +kernel
theorem dX12_unwrite_48 : decode cX12_unwrite 48 = .ok (.iload_n 2, 1) := by decide +kernel
theorem dX12_unwrite_49 : decode cX12_unwrite 49 = .ok (.iaload, 1) := by decide +kernel
theorem dX12_unwrite_50 : decode cX12_unwrite 50 = .ok (.if_icmp .ge 60, 3) := by decide +kernel
theorem dX12_unwrite_53 : decode cX12_unwrite 53 = .ok (.bipush 32, 2) := by decide +kernel
theorem dX12_unwrite_55 : decode cX12_unwrite 55 = .ok (.iload_n 2, 1) := by decide +kernel
theorem dX12_unwrite_56 : decode cX12_unwrite 56 = .ok (.imul, 1) := by decide +kernel
theorem dX12_unwrite_57 : decode cX12_unwrite 57 = .ok (.iconst 4, 1) := by decide +kernel
theorem dX12_unwrite_58 : decode cX12_unwrite 58 = .ok (.iload 4, 2) := by decide +kernel
theorem dX12_unwrite_60 : decode cX12_unwrite 60 = .ok (.imul, 1) := by decide +kernel
theorem dX12_unwrite_61 : decode cX12_unwrite 61 = .ok (.iadd, 1) := by decide +kernel
theorem dX12_unwrite_62 : decode cX12_unwrite 62 = .ok (.istore 5, 2) := by decide +kernel
theorem dX12_unwrite_64 : decode cX12_unwrite 64 = .ok (.iconst 0, 1) := by decide +kernel
theorem dX12_unwrite_65 : decode cX12_unwrite 65 = .ok (.istore 6, 2) := by decide +kernel
theorem dX12_unwrite_67 : decode cX12_unwrite 67 = .ok (.iload 6, 2) := by decide +kernel
theorem dX12_unwrite_69 : decode cX12_unwrite 69 = .ok (.iconst 3, 1) := by decide +kernel
theorem dX12_unwrite_70 : decode cX12_unwrite 70 = .ok (.if_icmp .ge 34, 3) := by decide +kernel
theorem dX12_unwrite_73 : decode cX12_unwrite 73 = .ok (.aload_n 0, 1) := by decide +kernel
theorem dX12_unwrite_74 : decode cX12_unwrite 74 = .ok (.getfield 29, 3) := by decide +kernel
theorem dX12_unwrite_77 : decode cX12_unwrite 77 = .ok (.iload 5, 2) := by decide +kernel
theorem dX12_unwrite_79 : decode cX12_unwrite 79 = .ok (.iload 6, 2) := by decide +kernel
theorem dX12_unwrite_81 : decode cX12_unwrite 81 = .ok (.iadd, 1) := by decide +kernel
theorem dX12_unwrite_82 : decode cX12_unwrite 82 = .ok (.aload_n 0, 1) := by decide +kernel
theorem dX12_unwrite_83 : decode cX12_unwrite 83 = .ok (.getfield 81, 3) := by decide +kernel
theorem dX12_unwrite_86 : decode cX12_unwrite 86 = .ok (.aload_n 0, 1) := by decide +kernel
theorem dX12_unwrite_87 : decode cX12_unwrite 87 = .ok (.getfield 29, 3) := by decide +kernel
theorem dX12_unwrite_90 : decode cX12_unwrite 90 = .ok (.iload 5, 2) := by decide +kernel
theorem dX12_unwrite_92 : decode cX12_unwrite 92 = .ok (.iload 6, 2) := by decide +kernel
theorem dX12_unwrite_94 : decode cX12_unwrite 94 = .ok (.iadd, 1) := by decide +kernel
theorem dX12_unwrite_95 : decode cX12_unwrite 95 = .ok (.iaload, 1) := by decide +kernel
theorem dX12_unwrite_96 : decode cX12_unwrite 96 = .ok (.iaload, 1) := by decide +kernel
theorem dX12_unwrite_97 : decode cX12_unwrite 97 = .ok (.iastore, 1) := by decide +kernel
theorem dX12_unwrite_98 : decode cX12_unwrite 98 = .ok (.iinc 6 1, 3) := by decide +kernel
theorem dX12_unwrite_101 : decode cX12_unwrite 101 = .ok (.goto (-34), 3) := by decide +kernel
theorem dX12_unwrite_104 : decode cX12_unwrite 104 = .ok (.iinc 4 1, 3) := by decide +kernel
theorem dX12_unwrite_107 : decode cX12_unwrite 107 = .ok (.goto (-65), 3) := by decide +kernel
theorem dX12_unwrite_110 : decode cX12_unwrite 110 = .ok (.iconst 0, 1) := by decide +kernel
theorem dX12_unwrite_111 : decode cX12_unwrite 111 = .ok (.istore 4, 2) := by decide +kernel
theorem dX12_unwrite_113 : decode cX12_unwrite 113 = .ok (.iload 4, 2) := by decide +kernel
theorem dX12_unwrite_115 : decode cX12_unwrite 115 = .ok (.iload_n 3, 1) := by decide +kernel
theorem dX12_unwrite_116 : decode cX12_unwrite 116 = .ok (.if_icmp .ge 29, 3) := by decide +kernel
theorem dX12_unwrite_119 : decode cX12_unwrite 119 = .ok (.aload_n 0, 1) := by decide +kernel
theorem dX12_unwrite_120 : decode cX12_unwrite 120 = .ok (.getfield 32, 3) := by decide +kernel
theorem dX12_unwrite_123 : decode cX12_unwrite 123 = .ok (.sipush 2001, 3) := by decide +kernel
theorem dX12_unwrite_126 : decode cX12_unwrite 126 = .ok (.iload_n 2, 1) := by decide +kernel
theorem dX12_unwrite_127 : decode cX12_unwrite 127 = .ok (.imul, 1) := by decide +kernel
theorem dX12_unwrite_128 : decode cX12_unwrite 128 = .ok (.iload 4, 2) := by decide +kernel
theorem dX12_unwrite_130 : decode cX12_unwrite 130 = .ok (.iadd, 1) := by decide +kernel
theorem dX12_unwrite_131 : decode cX12_unwrite 131 = .ok (.aload_n 0, 1) := by decide +kernel
theorem dX12_unwrite_132 : decode cX12_unwrite 132 = .ok (.getfield 90, 3) := by decide +kernel
theorem dX12_unwrite_135 : decode cX12_unwrite 135 = .ok (.iload 4, 2) := by decide +kernel
theorem dX12_unwrite_137 : decode cX12_unwrite 137 = .ok (.iaload, 1) := by decide +kernel
theorem dX12_unwrite_138 : decode cX12_unwrite 138 = .ok (.iastore, 1) := by decide +kernel
theorem dX12_unwrite_139 : decode cX12_unwrite 139 = .ok (.iinc 4 1, 3) := by decide +kernel
theorem dX12_unwrite_142 : decode cX12_unwrite 142 = .ok (.goto (-29), 3) := by decide +kernel
theorem dX12_unwrite_145 : decode cX12_unwrite 145 = .ok (.aload_n 0, 1) := by decide +kernel
theorem dX12_unwrite_146 : decode cX12_unwrite 146 = .ok (.getfield 23, 3) := by decide +kernel
theorem dX12_unwrite_149 : decode cX12_unwrite 149 = .ok (.iload_n 2, 1) := by decide +kernel
theorem dX12_unwrite_150 : decode cX12_unwrite 150 = .ok (.iload_n 3, 1) := by decide +kernel
theorem dX12_unwrite_151 : decode cX12_unwrite 151 = .ok (.iastore, 1) := by decide +kernel
theorem dX12_unwrite_152 : decode cX12_unwrite 152 = .ok (.iinc 2 1, 3) := by decide +kernel
theorem dX12_unwrite_155 : decode cX12_unwrite 155 = .ok (.goto (-141), 3) := by decide +kernel
theorem dX12_unwrite_158 : decode cX12_unwrite 158 = .ok (.iload_n 1, 1) := by decide +kernel
theorem dX12_unwrite_159 : decode cX12_unwrite 159 = .ok (.ireturn, 1) := by decide +kernel
abbrev wcX12_unwrite : List Cond := .code yX12_unwrite cX12_unwrite 7 (some .int) :: wsL_law
def lX12_unwrite_67 : Nat → Nat → Int32 → Int32 → Int32 → Int32 → Int32 → Int32 → hs_S → Option (hs_S)
  | 0, _, _, _, _, _, _, _, _ => none
  | n + 1, v0, v1, v2, v3, v4, v5, v6, g =>
    if (3 : Int32) ≤ v6 then (
      some g
    ) else (
      if hs_kd g v0 = 10 then
      if ¬ (hs_R g v0 9) = 0 then
      if ¬ (hs_R g v0 27) = 0 then
      if hs_kd g ((hs_R g v0 9) - 1) = 100 then
      if hs_in (v5 + v6) (hs_ln g ((hs_R g v0 9) - 1)) = true then
      if hs_kd g ((hs_R g v0 27) - 1) = 100 then
      if hs_in (hs_I g ((hs_R g v0 9) - 1) (v5 + v6).toNatClampNeg) (hs_ln g ((hs_R g v0 27) - 1)) = true then
      hs_bv (some (hs_wI g ((hs_R g v0 9) - 1) (v5 + v6).toNatClampNeg (hs_I g ((hs_R g v0 27) - 1) (hs_I g ((hs_R g v0 9) - 1) (v5 + v6).toNatClampNeg).toNatClampNeg))) fun g21 =>
      lX12_unwrite_67 n v0 v1 v2 v3 v4 v5 (v6 + (1 : Int32)) g21
      else none else none else none else none else none else none else none
    )
theorem lX12_unwrite_67_s (n : Nat) (v0 : Nat) (v1 : Int32) (v2 : Int32) (v3 : Int32) (v4 : Int32) (v5 : Int32) (v6 : Int32) (g : hs_S) : lX12_unwrite_67 (n + 1) v0 v1 v2 v3 v4 v5 v6 g =
    if (3 : Int32) ≤ v6 then (
      some g
    ) else (
      if hs_kd g v0 = 10 then
      if ¬ (hs_R g v0 9) = 0 then
      if ¬ (hs_R g v0 27) = 0 then
      if hs_kd g ((hs_R g v0 9) - 1) = 100 then
      if hs_in (v5 + v6) (hs_ln g ((hs_R g v0 9) - 1)) = true then
      if hs_kd g ((hs_R g v0 27) - 1) = 100 then
      if hs_in (hs_I g ((hs_R g v0 9) - 1) (v5 + v6).toNatClampNeg) (hs_ln g ((hs_R g v0 27) - 1)) = true then
      hs_bv (some (hs_wI g ((hs_R g v0 9) - 1) (v5 + v6).toNatClampNeg (hs_I g ((hs_R g v0 27) - 1) (hs_I g ((hs_R g v0 9) - 1) (v5 + v6).toNatClampNeg).toNatClampNeg))) fun g21 =>
      lX12_unwrite_67 n v0 v1 v2 v3 v4 v5 (v6 + (1 : Int32)) g21
      else none else none else none else none else none else none else none
    ) := rfl
def lX12_unwrite_42 : Nat → Nat → Int32 → Int32 → Int32 → Int32 → hs_S → Option (hs_S)
  | 0, _, _, _, _, _, _ => none
  | n + 1, v0, v1, v2, v3, v4, g =>
    if hs_kd g v0 = 10 then
    if ¬ (hs_R g v0 8) = 0 then
    if hs_kd g ((hs_R g v0 8) - 1) = 100 then
    if hs_in v2 (hs_ln g ((hs_R g v0 8) - 1)) = true then
    if (hs_I g ((hs_R g v0 8) - 1) v2.toNatClampNeg) ≤ v4 then (
      some g
    ) else (
      hs_bv (lX12_unwrite_67 hs_N v0 v1 v2 v3 v4 (((32 : Int32) * v2) + ((4 : Int32) * v4)) (0 : Int32) g) fun g29 =>
      lX12_unwrite_42 n v0 v1 v2 v3 (v4 + (1 : Int32)) g29
    )
    else none else none else none else none
theorem lX12_unwrite_42_s (n : Nat) (v0 : Nat) (v1 : Int32) (v2 : Int32) (v3 : Int32) (v4 : Int32) (g : hs_S) : lX12_unwrite_42 (n + 1) v0 v1 v2 v3 v4 g =
    if hs_kd g v0 = 10 then
    if ¬ (hs_R g v0 8) = 0 then
    if hs_kd g ((hs_R g v0 8) - 1) = 100 then
    if hs_in v2 (hs_ln g ((hs_R g v0 8) - 1)) = true then
    if (hs_I g ((hs_R g v0 8) - 1) v2.toNatClampNeg) ≤ v4 then (
      some g
    ) else (
      hs_bv (lX12_unwrite_67 hs_N v0 v1 v2 v3 v4 (((32 : Int32) * v2) + ((4 : Int32) * v4)) (0 : Int32) g) fun g29 =>
      lX12_unwrite_42 n v0 v1 v2 v3 (v4 + (1 : Int32)) g29
    )
    else none else none else none else none := rfl
def lX12_unwrite_113 : Nat → Nat → Int32 → Int32 → Int32 → Int32 → hs_S → Option (hs_S)
  | 0, _, _, _, _, _, _ => none
  | n + 1, v0, v1, v2, v3, v4, g =>
    if v3 ≤ v4 then (
      some g
    ) else (
      if hs_kd g v0 = 10 then
      if ¬ (hs_R g v0 10) = 0 then
      if ¬ (hs_R g v0 30) = 0 then
      if hs_kd g ((hs_R g v0 30) - 1) = 100 then
      if hs_in v4 (hs_ln g ((hs_R g v0 30) - 1)) = true then
      if hs_kd g ((hs_R g v0 10) - 1) = 100 then
      if hs_in (((2001 : Int32) * v2) + v4) (hs_ln g ((hs_R g v0 10) - 1)) = true then
      hs_bv (some (hs_wI g ((hs_R g v0 10) - 1) (((2001 : Int32) * v2) + v4).toNatClampNeg (hs_I g ((hs_R g v0 30) - 1) v4.toNatClampNeg))) fun g41 =>
      lX12_unwrite_113 n v0 v1 v2 v3 (v4 + (1 : Int32)) g41
      else none else none else none else none else none else none else none
    )
theorem lX12_unwrite_113_s (n : Nat) (v0 : Nat) (v1 : Int32) (v2 : Int32) (v3 : Int32) (v4 : Int32) (g : hs_S) : lX12_unwrite_113 (n + 1) v0 v1 v2 v3 v4 g =
    if v3 ≤ v4 then (
      some g
    ) else (
      if hs_kd g v0 = 10 then
      if ¬ (hs_R g v0 10) = 0 then
      if ¬ (hs_R g v0 30) = 0 then
      if hs_kd g ((hs_R g v0 30) - 1) = 100 then
      if hs_in v4 (hs_ln g ((hs_R g v0 30) - 1)) = true then
      if hs_kd g ((hs_R g v0 10) - 1) = 100 then
      if hs_in (((2001 : Int32) * v2) + v4) (hs_ln g ((hs_R g v0 10) - 1)) = true then
      hs_bv (some (hs_wI g ((hs_R g v0 10) - 1) (((2001 : Int32) * v2) + v4).toNatClampNeg (hs_I g ((hs_R g v0 30) - 1) v4.toNatClampNeg))) fun g41 =>
      lX12_unwrite_113 n v0 v1 v2 v3 (v4 + (1 : Int32)) g41
      else none else none else none else none else none else none else none
    ) := rfl
def lX12_unwrite_14 : Nat → Nat → Int32 → Int32 → hs_S → Option (Int32 × hs_S)
  | 0, _, _, _, _ => none
  | n + 1, v0, v1, v2, g =>
    if hs_kd g v0 = 10 then
    if (hs_I g v0 4) ≤ v2 then (
      some (v1, g)
    ) else (
      hs_bd (fX12_lay v0 v2 (0 : Int32) g) fun r4 g3 =>
      if hs_kd g3 v0 = 10 then
      hs_bv (fX12_put v0 v2 (0 : Int32) g3) fun g7 =>
      hs_bv (lX12_unwrite_42 hs_N v0 (v1 + r4) v2 r4 (0 : Int32) g7) fun g32 =>
      hs_bv (lX12_unwrite_113 hs_N v0 (v1 + r4) v2 r4 (0 : Int32) g32) fun g49 =>
      if hs_kd g49 v0 = 10 then
      if ¬ (hs_R g49 v0 7) = 0 then
      if hs_kd g49 ((hs_R g49 v0 7) - 1) = 100 then
      if hs_in v2 (hs_ln g49 ((hs_R g49 v0 7) - 1)) = true then
      lX12_unwrite_14 n v0 (v1 + r4) (v2 + (1 : Int32)) (hs_wI g49 ((hs_R g49 v0 7) - 1) v2.toNatClampNeg r4)
      else none else none else none else none else none
    )
    else none
theorem lX12_unwrite_14_s (n : Nat) (v0 : Nat) (v1 : Int32) (v2 : Int32) (g : hs_S) : lX12_unwrite_14 (n + 1) v0 v1 v2 g =
    if hs_kd g v0 = 10 then
    if (hs_I g v0 4) ≤ v2 then (
      some (v1, g)
    ) else (
      hs_bd (fX12_lay v0 v2 (0 : Int32) g) fun r4 g3 =>
      if hs_kd g3 v0 = 10 then
      hs_bv (fX12_put v0 v2 (0 : Int32) g3) fun g7 =>
      hs_bv (lX12_unwrite_42 hs_N v0 (v1 + r4) v2 r4 (0 : Int32) g7) fun g32 =>
      hs_bv (lX12_unwrite_113 hs_N v0 (v1 + r4) v2 r4 (0 : Int32) g32) fun g49 =>
      if hs_kd g49 v0 = 10 then
      if ¬ (hs_R g49 v0 7) = 0 then
      if hs_kd g49 ((hs_R g49 v0 7) - 1) = 100 then
      if hs_in v2 (hs_ln g49 ((hs_R g49 v0 7) - 1)) = true then
      lX12_unwrite_14 n v0 (v1 + r4) (v2 + (1 : Int32)) (hs_wI g49 ((hs_R g49 v0 7) - 1) v2.toNatClampNeg r4)
      else none else none else none else none else none
    )
    else none := rfl
def fX12_unwrite (v0 : Nat) (g : hs_S) : Option (Int32 × hs_S) :=
  if hs_kd g v0 = 10 then
  if (hs_I g v0 22) = 0 then (
    some ((-2 : Int32), g)
  ) else (
    hs_bd (lX12_unwrite_14 hs_N v0 (0 : Int32) (0 : Int32) g) fun x55 g57 =>
    some (x55, g57)
  )
  else none
abbrev rmX12_unwrite : Room := { frames := 5, cells := 0, slots := 0, locals := 120 }
set_option maxHeartbeats 4000000 in
set_option maxRecDepth 100000 in
theorem wX12_unwrite_67 {p : Program} {l : Launch} {e : Env} {s : State} {m : MethodId} {args : Array Value} {below : List Frame} {meth : Method} {c : Code} {B : Nat} {D : va_G} {E : Nat → ClassId} (hX : hs_cx cX12_unwrite (some .int) 7 RX12 wcX12_unwrite p s m args meth c D E) {Q : State → Prop} {o : hs_S} {v0 : Nat} {v1 : Int32} {v2 : Int32} {v3 : Int32} {v4 : Int32} {v5 : Int32} (hex0 : ∀ (H : Heap) (locs : List Loc) (ls : Array Slot), hs_P B D E (o) H → hs_Sx B s.heap H locs → lv_has ls 7 [(0, .ref (B + v0)), (1, .int v1), (2, .int v2), (3, .int v3), (4, .int v4)] → W p l e rmX12_unwrite s m args below meth c H locs 0 0 Q (F0 m 104 ls [])) : ∀ (n : Nat) (v6 : Int32) (g : hs_S), lX12_unwrite_67 n v0 v1 v2 v3 v4 v5 v6 g = some o → ∀ (H : Heap) (locs : List Loc) (ls : Array Slot), hs_P B D E g H → hs_Sx B s.heap H locs → lv_has ls 7 [(0, .ref (B + v0)), (1, .int v1), (2, .int v2), (3, .int v3), (4, .int v4), (5, .int v5), (6, .int v6)] → W p l e rmX12_unwrite s m args below meth c H locs 0 0 Q (F0 m 67 ls []) := by
  obtain ⟨hx, hb, hr, hml, hown, hts, hlocks, hK⟩ := id hX
  intro n
  induction n with
  | zero =>
    intro v6 g hf
    cases hf
  | succ n ih =>
    intro v6 g hf H locs ls hP hS hl
    replace hf := (lX12_unwrite_67_s n v0 v1 v2 v3 v4 v5 v6 g).symm.trans hf
    refine lv_iload hx hb dX12_unwrite_67 (lv_at hl 6 rfl) ?_
    refine lv_iconst (v := 3) hx hb dX12_unwrite_69 (by decide) ?_
    refine lv_icmp_ge (tgt := 104) hx hb dX12_unwrite_70 (by decide) (fun hc => ?_) (fun hc => ?_)
    · replace hf := hs_t hf hc
      obtain rfl := Option.some.inj hf
      exact hex0 _ _ _ hP hS (lv_sub hl [0, 1, 2, 3, 4] rfl)
    · replace hf := hs_f hf hc
      refine lv_aload_n hx hb dX12_unwrite_73 rfl (lv_at hl 0 rfl) ?_
      obtain ⟨h14, hf⟩ := hs_ck hf
      obtain ⟨h15, hf⟩ := hs_ck hf
      refine hs_getr (C := RX12) (T := TX12) (N := 48) hx hb hts (fun w h => List.mem_cons_of_mem _ (inlX12 w h)) hown hK.1 hP h14 (by decide) rfl 9 (by decide) (hts _ (List.mem_cons_of_mem _ wq127)) (fun _ h => h) rfl h15 dX12_unwrite_74 ?_
      refine lv_iload hx hb dX12_unwrite_77 (lv_at hl 5 rfl) ?_
      refine lv_iload hx hb dX12_unwrite_79 (lv_at hl 6 rfl) ?_
      refine lv_iadd hx hb dX12_unwrite_81 ?_
      refine lv_aload_n hx hb dX12_unwrite_82 rfl (lv_at hl 0 rfl) ?_
      obtain ⟨h16, hf⟩ := hs_ck hf
      refine hs_getr (C := RX12) (T := TX12) (N := 48) hx hb hts (fun w h => List.mem_cons_of_mem _ (inlX12 w h)) hown hK.1 hP h14 (by decide) rfl 27 (by decide) (hts _ (List.mem_cons_of_mem _ wq145)) (fun _ h => h) rfl h16 dX12_unwrite_83 ?_
      refine lv_aload_n hx hb dX12_unwrite_86 rfl (lv_at hl 0 rfl) ?_
      refine hs_getr (C := RX12) (T := TX12) (N := 48) hx hb hts (fun w h => List.mem_cons_of_mem _ (inlX12 w h)) hown hK.1 hP h14 (by decide) rfl 9 (by decide) (hts _ (List.mem_cons_of_mem _ wq127)) (fun _ h => h) rfl h15 dX12_unwrite_87 ?_
      refine lv_iload hx hb dX12_unwrite_90 (lv_at hl 5 rfl) ?_
      refine lv_iload hx hb dX12_unwrite_92 (lv_at hl 6 rfl) ?_
      refine lv_iadd hx hb dX12_unwrite_94 ?_
      obtain ⟨h17, hf⟩ := hs_ck hf
      obtain ⟨h18, hf⟩ := hs_ck hf
      refine hs_iald hx hb hK.1 hP h17 h18 dX12_unwrite_95 ?_
      obtain ⟨h19, hf⟩ := hs_ck hf
      obtain ⟨h20, hf⟩ := hs_ck hf
      refine hs_iald hx hb hK.1 hP h19 h20 dX12_unwrite_96 ?_
      refine hs_iast hx hb hK.1 hP hS h17 h18 dX12_unwrite_97 (fun H locs hP hS => ?_)
      obtain ⟨g21, e22, hf⟩ := hs_bv_some hf
      replace e22 := Option.some.inj e22
      rw [e22] at hP
      have h23 : hs_kd g21 v0 = 10 := by rw [← e22]; exact h14
      have h24 : hs_kd g21 ((hs_R g v0 9) - 1) = 100 := by rw [← e22]; exact h17
      have h25 : hs_in (v5 + v6) (hs_ln g21 ((hs_R g v0 9) - 1)) = true := by rw [← e22]; exact h18
      have h26 : hs_kd g21 ((hs_R g v0 27) - 1) = 100 := by rw [← e22]; exact h19
      have h27 : hs_in (hs_I g ((hs_R g v0 9) - 1) (v5 + v6).toNatClampNeg) (hs_ln g21 ((hs_R g v0 27) - 1)) = true := by rw [← e22]; exact h20
      refine lv_iinc (v := (v6 + (1 : Int32))) (lv' := [(6, .int (v6 + (1 : Int32))), (0, .ref (B + v0)), (1, .int v1), (2, .int v2), (3, .int v3), (4, .int v4), (5, .int v5)]) hx hb dX12_unwrite_98 hl (k := 6) rfl (by rfl) (by decide) rfl (fun ls hl => ?_)
      refine lv_goto (tgt := 67) hx hb dX12_unwrite_101 (by decide) ?_
      exact ih _ _ hf _ _ _ hP hS (lv_sub hl [1, 2, 3, 4, 5, 6, 0] rfl)

set_option maxHeartbeats 4000000 in
set_option maxRecDepth 100000 in
theorem wX12_unwrite_42 {p : Program} {l : Launch} {e : Env} {s : State} {m : MethodId} {args : Array Value} {below : List Frame} {meth : Method} {c : Code} {B : Nat} {D : va_G} {E : Nat → ClassId} (hX : hs_cx cX12_unwrite (some .int) 7 RX12 wcX12_unwrite p s m args meth c D E) {Q : State → Prop} {o : hs_S} {v0 : Nat} {v1 : Int32} {v2 : Int32} {v3 : Int32} (hex0 : ∀ (H : Heap) (locs : List Loc) (ls : Array Slot), hs_P B D E (o) H → hs_Sx B s.heap H locs → lv_has ls 7 [(0, .ref (B + v0)), (1, .int v1), (2, .int v2), (3, .int v3)] → W p l e rmX12_unwrite s m args below meth c H locs 0 0 Q (F0 m 110 ls [])) : ∀ (n : Nat) (v4 : Int32) (g : hs_S), lX12_unwrite_42 n v0 v1 v2 v3 v4 g = some o → ∀ (H : Heap) (locs : List Loc) (ls : Array Slot), hs_P B D E g H → hs_Sx B s.heap H locs → lv_has ls 7 [(0, .ref (B + v0)), (1, .int v1), (2, .int v2), (3, .int v3), (4, .int v4)] → W p l e rmX12_unwrite s m args below meth c H locs 0 0 Q (F0 m 42 ls []) := by
  obtain ⟨hx, hb, hr, hml, hown, hts, hlocks, hK⟩ := id hX
  intro n
  induction n with
  | zero =>
    intro v4 g hf
    cases hf
  | succ n ih =>
    intro v4 g hf H locs ls hP hS hl
    replace hf := (lX12_unwrite_42_s n v0 v1 v2 v3 v4 g).symm.trans hf
    refine lv_iload hx hb dX12_unwrite_42 (lv_at hl 4 rfl) ?_
    refine lv_aload_n hx hb dX12_unwrite_44 rfl (lv_at hl 0 rfl) ?_
    obtain ⟨h10, hf⟩ := hs_ck hf
    obtain ⟨h11, hf⟩ := hs_ck hf
    refine hs_getr (C := RX12) (T := TX12) (N := 48) hx hb hts (fun w h => List.mem_cons_of_mem _ (inlX12 w h)) hown hK.1 hP h10 (by decide) rfl 8 (by decide) (hts _ (List.mem_cons_of_mem _ wq126)) (fun _ h => h) rfl h11 dX12_unwrite_45 ?_
    refine lv_iload_n hx hb dX12_unwrite_48 rfl (lv_at hl 2 rfl) ?_
    obtain ⟨h12, hf⟩ := hs_ck hf
    obtain ⟨h13, hf⟩ := hs_ck hf
    refine hs_iald hx hb hK.1 hP h12 h13 dX12_unwrite_49 ?_
    refine lv_icmp_ge (tgt := 110) hx hb dX12_unwrite_50 (by decide) (fun hc => ?_) (fun hc => ?_)
    · replace hf := hs_t hf hc
      obtain rfl := Option.some.inj hf
      exact hex0 _ _ _ hP hS (lv_sub hl [0, 1, 2, 3] rfl)
    · replace hf := hs_f hf hc
      refine lv_bipush (v := 32) hx hb dX12_unwrite_53 (by decide) ?_
      refine lv_iload_n hx hb dX12_unwrite_55 rfl (lv_at hl 2 rfl) ?_
      refine lv_imul hx hb dX12_unwrite_56 ?_
      refine lv_iconst (v := 4) hx hb dX12_unwrite_57 (by decide) ?_
      refine lv_iload hx hb dX12_unwrite_58 (lv_at hl 4 rfl) ?_
      refine lv_imul hx hb dX12_unwrite_60 ?_
      refine lv_iadd hx hb dX12_unwrite_61 ?_
      refine lv_istore (lv' := [(5, .int (((32 : Int32) * v2) + ((4 : Int32) * v4))), (0, .ref (B + v0)), (1, .int v1), (2, .int v2), (3, .int v3), (4, .int v4)]) hx hb dX12_unwrite_62 hl (by decide) rfl (fun ls hl => ?_)
      refine lv_iconst (v := 0) hx hb dX12_unwrite_64 (by decide) ?_
      refine lv_istore (lv' := [(6, .int (0 : Int32)), (5, .int (((32 : Int32) * v2) + ((4 : Int32) * v4))), (0, .ref (B + v0)), (1, .int v1), (2, .int v2), (3, .int v3), (4, .int v4)]) hx hb dX12_unwrite_65 hl (by decide) rfl (fun ls hl => ?_)
      obtain ⟨g29, h30, hf⟩ := hs_bv_some hf
      refine wX12_unwrite_67 hX (fun H locs ls hP hS hl => ?_) hs_N _ _ h30 _ _ _ hP hS (lv_sub hl [2, 3, 4, 5, 6, 1, 0] rfl)
      refine lv_iinc (v := (v4 + (1 : Int32))) (lv' := [(4, .int (v4 + (1 : Int32))), (0, .ref (B + v0)), (1, .int v1), (2, .int v2), (3, .int v3)]) hx hb dX12_unwrite_104 hl (k := 4) rfl (by rfl) (by decide) rfl (fun ls hl => ?_)
      refine lv_goto (tgt := 42) hx hb dX12_unwrite_107 (by decide) ?_
      exact ih _ _ hf _ _ _ hP hS (lv_sub hl [1, 2, 3, 4, 0] rfl)

set_option maxHeartbeats 4000000 in
set_option maxRecDepth 100000 in
theorem wX12_unwrite_113 {p : Program} {l : Launch} {e : Env} {s : State} {m : MethodId} {args : Array Value} {below : List Frame} {meth : Method} {c : Code} {B : Nat} {D : va_G} {E : Nat → ClassId} (hX : hs_cx cX12_unwrite (some .int) 7 RX12 wcX12_unwrite p s m args meth c D E) {Q : State → Prop} {o : hs_S} {v0 : Nat} {v1 : Int32} {v2 : Int32} {v3 : Int32} (hex0 : ∀ (H : Heap) (locs : List Loc) (ls : Array Slot), hs_P B D E (o) H → hs_Sx B s.heap H locs → lv_has ls 7 [(0, .ref (B + v0)), (1, .int v1), (2, .int v2), (3, .int v3)] → W p l e rmX12_unwrite s m args below meth c H locs 0 0 Q (F0 m 145 ls [])) : ∀ (n : Nat) (v4 : Int32) (g : hs_S), lX12_unwrite_113 n v0 v1 v2 v3 v4 g = some o → ∀ (H : Heap) (locs : List Loc) (ls : Array Slot), hs_P B D E g H → hs_Sx B s.heap H locs → lv_has ls 7 [(0, .ref (B + v0)), (1, .int v1), (2, .int v2), (3, .int v3), (4, .int v4)] → W p l e rmX12_unwrite s m args below meth c H locs 0 0 Q (F0 m 113 ls []) := by
  obtain ⟨hx, hb, hr, hml, hown, hts, hlocks, hK⟩ := id hX
  intro n
  induction n with
  | zero =>
    intro v4 g hf
    cases hf
  | succ n ih =>
    intro v4 g hf H locs ls hP hS hl
    replace hf := (lX12_unwrite_113_s n v0 v1 v2 v3 v4 g).symm.trans hf
    refine lv_iload hx hb dX12_unwrite_113 (lv_at hl 4 rfl) ?_
    refine lv_iload_n hx hb dX12_unwrite_115 rfl (lv_at hl 3 rfl) ?_
    refine lv_icmp_ge (tgt := 145) hx hb dX12_unwrite_116 (by decide) (fun hc => ?_) (fun hc => ?_)
    · replace hf := hs_t hf hc
      obtain rfl := Option.some.inj hf
      exact hex0 _ _ _ hP hS (lv_sub hl [0, 1, 2, 3] rfl)
    · replace hf := hs_f hf hc
      refine lv_aload_n hx hb dX12_unwrite_119 rfl (lv_at hl 0 rfl) ?_
      obtain ⟨h34, hf⟩ := hs_ck hf
      obtain ⟨h35, hf⟩ := hs_ck hf
      refine hs_getr (C := RX12) (T := TX12) (N := 48) hx hb hts (fun w h => List.mem_cons_of_mem _ (inlX12 w h)) hown hK.1 hP h34 (by decide) rfl 10 (by decide) (hts _ (List.mem_cons_of_mem _ wq128)) (fun _ h => h) rfl h35 dX12_unwrite_120 ?_
      refine lv_sipush (v := 2001) hx hb dX12_unwrite_123 (by decide) ?_
      refine lv_iload_n hx hb dX12_unwrite_126 rfl (lv_at hl 2 rfl) ?_
      refine lv_imul hx hb dX12_unwrite_127 ?_
      refine lv_iload hx hb dX12_unwrite_128 (lv_at hl 4 rfl) ?_
      refine lv_iadd hx hb dX12_unwrite_130 ?_
      refine lv_aload_n hx hb dX12_unwrite_131 rfl (lv_at hl 0 rfl) ?_
      obtain ⟨h36, hf⟩ := hs_ck hf
      refine hs_getr (C := RX12) (T := TX12) (N := 48) hx hb hts (fun w h => List.mem_cons_of_mem _ (inlX12 w h)) hown hK.1 hP h34 (by decide) rfl 30 (by decide) (hts _ (List.mem_cons_of_mem _ wq148)) (fun _ h => h) rfl h36 dX12_unwrite_132 ?_
      refine lv_iload hx hb dX12_unwrite_135 (lv_at hl 4 rfl) ?_
      obtain ⟨h37, hf⟩ := hs_ck hf
      obtain ⟨h38, hf⟩ := hs_ck hf
      refine hs_iald hx hb hK.1 hP h37 h38 dX12_unwrite_137 ?_
      obtain ⟨h39, hf⟩ := hs_ck hf
      obtain ⟨h40, hf⟩ := hs_ck hf
      refine hs_iast hx hb hK.1 hP hS h39 h40 dX12_unwrite_138 (fun H locs hP hS => ?_)
      obtain ⟨g41, e42, hf⟩ := hs_bv_some hf
      replace e42 := Option.some.inj e42
      rw [e42] at hP
      have h43 : hs_kd g41 v0 = 10 := by rw [← e42]; exact h34
      have h44 : hs_kd g41 ((hs_R g v0 30) - 1) = 100 := by rw [← e42]; exact h37
      have h45 : hs_in v4 (hs_ln g41 ((hs_R g v0 30) - 1)) = true := by rw [← e42]; exact h38
      have h46 : hs_kd g41 ((hs_R g v0 10) - 1) = 100 := by rw [← e42]; exact h39
      have h47 : hs_in (((2001 : Int32) * v2) + v4) (hs_ln g41 ((hs_R g v0 10) - 1)) = true := by rw [← e42]; exact h40
      refine lv_iinc (v := (v4 + (1 : Int32))) (lv' := [(4, .int (v4 + (1 : Int32))), (0, .ref (B + v0)), (1, .int v1), (2, .int v2), (3, .int v3)]) hx hb dX12_unwrite_139 hl (k := 4) rfl (by rfl) (by decide) rfl (fun ls hl => ?_)
      refine lv_goto (tgt := 113) hx hb dX12_unwrite_142 (by decide) ?_
      exact ih _ _ hf _ _ _ hP hS (lv_sub hl [1, 2, 3, 4, 0] rfl)

set_option maxHeartbeats 4000000 in
set_option maxRecDepth 100000 in
theorem wX12_unwrite_14 {p : Program} {l : Launch} {e : Env} {s : State} {m : MethodId} {args : Array Value} {below : List Frame} {meth : Method} {c : Code} {B : Nat} {D : va_G} {E : Nat → ClassId} (hX : hs_cx cX12_unwrite (some .int) 7 RX12 wcX12_unwrite p s m args meth c D E) {Q : State → Prop} {o : Int32 × hs_S} {v0 : Nat} (hex0 : ∀ (H : Heap) (locs : List Loc) (ls : Array Slot), hs_P B D E (o.2) H → hs_Sx B s.heap H locs → lv_has ls 7 [(1, .int (o.1))] → W p l e rmX12_unwrite s m args below meth c H locs 0 0 Q (F0 m 158 ls [])) : ∀ (n : Nat) (v1 : Int32) (v2 : Int32) (g : hs_S), lX12_unwrite_14 n v0 v1 v2 g = some o → ∀ (H : Heap) (locs : List Loc) (ls : Array Slot), hs_P B D E g H → hs_Sx B s.heap H locs → lv_has ls 7 [(0, .ref (B + v0)), (1, .int v1), (2, .int v2)] → W p l e rmX12_unwrite s m args below meth c H locs 0 0 Q (F0 m 14 ls []) := by
  obtain ⟨hx, hb, hr, hml, hown, hts, hlocks, hK⟩ := id hX
  intro n
  induction n with
  | zero =>
    intro v1 v2 g hf
    cases hf
  | succ n ih =>
    intro v1 v2 g hf H locs ls hP hS hl
    replace hf := (lX12_unwrite_14_s n v0 v1 v2 g).symm.trans hf
    refine lv_iload_n hx hb dX12_unwrite_14 rfl (lv_at hl 2 rfl) ?_
    refine lv_aload_n hx hb dX12_unwrite_15 rfl (lv_at hl 0 rfl) ?_
    obtain ⟨h2, hf⟩ := hs_ck hf
    refine hs_geti (C := RX12) (T := TX12) (N := 48) hx hb hts (fun w h => List.mem_cons_of_mem _ (inlX12 w h)) hown hK.1 hP h2 (by decide) rfl 4 (by decide) (hts _ (List.mem_cons_of_mem _ wq392)) (fun _ h => h) rfl dX12_unwrite_16 ?_
    refine lv_icmp_ge (tgt := 158) hx hb dX12_unwrite_19 (by decide) (fun hc => ?_) (fun hc => ?_)
    · replace hf := hs_t hf hc
      obtain rfl := Option.some.inj hf
      exact hex0 _ _ _ hP hS (lv_sub hl [1] rfl)
    · replace hf := hs_f hf hc
      refine lv_aload_n hx hb dX12_unwrite_22 rfl (lv_at hl 0 rfl) ?_
      refine lv_iload_n hx hb dX12_unwrite_23 rfl (lv_at hl 2 rfl) ?_
      refine lv_iconst (v := 0) hx hb dX12_unwrite_24 (by decide) ?_
      obtain ⟨r4, g3, h5, hf⟩ := hs_bd_some hf
      refine hs_calli (va_runV (As := [.int v2, .int (0 : Int32)]) (rest := []) ⟨hx, hb, hml, hown, hts⟩ (ctX12_lay l B D E v0 v2 (0 : Int32) g _ h5) (cwV 2 hts (hs_gV (fun _ h => List.mem_cons_of_mem _ h) wq596 wq597 wq598 wq5 wq599) rfl rfl rfl (by decide +kernel) ⟨Nat.le_of_ble_eq_true rfl, Nat.le_of_ble_eq_true rfl⟩) (hs_preV (r := (RX12, TX12, 48)) hP hK h2 (by decide) rfl) rfl rfl hl.1 rfl (lv_room (Nat.le_of_ble_eq_true rfl)) dX12_unwrite_25 ⟨(Nat.le_of_ble_eq_true rfl), (Nat.le_of_ble_eq_true rfl)⟩) hS (fun H locs hP hS => ?_)
      refine lv_istore_n (lv' := [(3, .int r4), (0, .ref (B + v0)), (1, .int v1), (2, .int v2)]) hx hb dX12_unwrite_28 rfl hl (by decide) rfl (fun ls hl => ?_)
      refine lv_aload_n hx hb dX12_unwrite_29 rfl (lv_at hl 1 rfl) ?_
      refine lv_iload_n hx hb dX12_unwrite_30 rfl (lv_at hl 3 rfl) ?_
      refine lv_iconst (v := 0) hx hb dX12_unwrite_31 (by decide) ?_
      obtain ⟨h6, hf⟩ := hs_ck hf
      obtain ⟨g7, h9, hf⟩ := hs_bv_some hf
      refine hs_callv (va_runV (As := [.int v2, .int (0 : Int32)]) (rest := []) ⟨hx, hb, hml, hown, hts⟩ (ctX12_put l B D E v0 v2 (0 : Int32) g3 _ h9) (cwV 2 hts (hs_gV (fun _ h => List.mem_cons_of_mem _ h) wq623 wq624 wq625 wq5 wq626) rfl rfl rfl (by decide +kernel) ⟨Nat.le_of_ble_eq_true rfl, Nat.le_of_ble_eq_true rfl⟩) (hs_preV (r := (RX12, TX12, 48)) hP hK h6 (by decide) rfl) rfl rfl hl.1 rfl (lv_room (Nat.le_of_ble_eq_true rfl)) dX12_unwrite_32 ⟨(Nat.le_of_ble_eq_true rfl), (Nat.le_of_ble_eq_true rfl)⟩) hS (fun H locs hP hS => ?_)
      refine lv_iload_n hx hb dX12_unwrite_35 rfl (lv_at hl 2 rfl) ?_
      refine lv_iload_n hx hb dX12_unwrite_36 rfl (lv_at hl 0 rfl) ?_
      refine lv_iadd hx hb dX12_unwrite_37 ?_
      refine lv_istore_n (lv' := [(1, .int (v1 + r4)), (3, .int r4), (0, .ref (B + v0)), (2, .int v2)]) hx hb dX12_unwrite_38 rfl hl (by decide) rfl (fun ls hl => ?_)
      refine lv_iconst (v := 0) hx hb dX12_unwrite_39 (by decide) ?_
      refine lv_istore (lv' := [(4, .int (0 : Int32)), (1, .int (v1 + r4)), (3, .int r4), (0, .ref (B + v0)), (2, .int v2)]) hx hb dX12_unwrite_40 hl (by decide) rfl (fun ls hl => ?_)
      obtain ⟨g32, h33, hf⟩ := hs_bv_some hf
      refine wX12_unwrite_42 hX (fun H locs ls hP hS hl => ?_) hs_N _ _ h33 _ _ _ hP hS (lv_sub hl [3, 1, 4, 2, 0] rfl)
      refine lv_iconst (v := 0) hx hb dX12_unwrite_110 (by decide) ?_
      refine lv_istore (lv' := [(4, .int (0 : Int32)), (0, .ref (B + v0)), (1, .int (v1 + r4)), (2, .int v2), (3, .int r4)]) hx hb dX12_unwrite_111 hl (by decide) rfl (fun ls hl => ?_)
      obtain ⟨g49, h50, hf⟩ := hs_bv_some hf
      refine wX12_unwrite_113 hX (fun H locs ls hP hS hl => ?_) hs_N _ _ h50 _ _ _ hP hS (lv_sub hl [1, 2, 3, 4, 0] rfl)
      refine lv_aload_n hx hb dX12_unwrite_145 rfl (lv_at hl 0 rfl) ?_
      obtain ⟨h51, hf⟩ := hs_ck hf
      obtain ⟨h52, hf⟩ := hs_ck hf
      refine hs_getr (C := RX12) (T := TX12) (N := 48) hx hb hts (fun w h => List.mem_cons_of_mem _ (inlX12 w h)) hown hK.1 hP h51 (by decide) rfl 7 (by decide) (hts _ (List.mem_cons_of_mem _ wq125)) (fun _ h => h) rfl h52 dX12_unwrite_146 ?_
      refine lv_iload_n hx hb dX12_unwrite_149 rfl (lv_at hl 2 rfl) ?_
      refine lv_iload_n hx hb dX12_unwrite_150 rfl (lv_at hl 3 rfl) ?_
      obtain ⟨h53, hf⟩ := hs_ck hf
      obtain ⟨h54, hf⟩ := hs_ck hf
      refine hs_iast hx hb hK.1 hP hS h53 h54 dX12_unwrite_151 (fun H locs hP hS => ?_)
      refine lv_iinc (v := (v2 + (1 : Int32))) (lv' := [(2, .int (v2 + (1 : Int32))), (0, .ref (B + v0)), (1, .int (v1 + r4)), (3, .int r4)]) hx hb dX12_unwrite_152 hl (k := 2) rfl (by rfl) (by decide) rfl (fun ls hl => ?_)
      refine lv_goto (tgt := 14) hx hb dX12_unwrite_155 (by decide) ?_
      exact ih _ _ _ hf _ _ _ hP hS (lv_sub hl [1, 2, 0] rfl)

set_option maxHeartbeats 4000000 in
set_option maxRecDepth 100000 in
theorem ctX12_unwrite (l : Launch) (B : Nat) (D : va_G) (E : Nat → ClassId) (v0 : Nat) (g : hs_S) (o : Int32 × hs_S) (hf : fX12_unwrite v0 g = some o) : Met l yX12_unwrite wcX12_unwrite rmX12_unwrite (hs_Pc B D E g [.ref (B + v0)]) (hs_Qi B D E o) (0) (0) (hs_F B) := by
  refine Met.ofW (cc := cX12_unwrite) (maxL := 7) (ret := (some .int)) (by decide) rfl ?_
  intro p e s m args below meth c s₁ Bd hml hv
  obtain ⟨rfl, hP, hK⟩ := hv
  have hx := Bd.exec
  have hb := Bd.bytes
  have hr := Bd.returns
  have hts := atoms_spec (ws := wcX12_unwrite) Bd.pre
  have hown : s.vm.findClass RX12 = some m.cls := findClass_of_methodNamed Bd.named
  have hlocks := Bd.notSynchronized
  have hS : hs_Sx B s.heap s.heap [] := va_S.rf
  have hX : hs_cx cX12_unwrite (some .int) 7 RX12 wcX12_unwrite p s m (List.toArray [.ref (B + v0)]) meth c D E := ⟨hx, hb, hr, hml, hown, hts, hlocks, hK⟩
  have hl := lv_entry ([.ref (B + v0)]) (n := 7) (Nat.le_of_ble_eq_true rfl)
  rw [lg_entry_eq]
  generalize (lg_sl ([.ref (B + v0)]) ++ List.replicate (7 - (lg_sl ([.ref (B + v0)])).length) Slot.unset).toArray = ls at hl ⊢
  have hl : lv_has ls 7 [(0, .ref (B + v0))] := hl
  have hP : hs_P B D E g s.heap := hP
  unfold fX12_unwrite at hf
  refine lv_aload_n hx hb dX12_unwrite_0 rfl (lv_at hl 0 rfl) ?_
  obtain ⟨h1, hf⟩ := hs_ck hf
  refine hs_geti (C := RX12) (T := TX12) (N := 48) hx hb hts (fun w h => List.mem_cons_of_mem _ (inlX12 w h)) hown hK.1 hP h1 (by decide) rfl 22 (by decide) (hts _ (List.mem_cons_of_mem _ wq394)) (fun _ h => h) rfl dX12_unwrite_1 ?_
  refine lv_if_ne (tgt := 10) hx hb dX12_unwrite_4 (by decide) (fun hc => ?_) (fun hc => ?_)
  · replace hf := hs_f hf hc
    refine lv_iconst (v := 0) hx hb dX12_unwrite_10 (by decide) ?_
    refine lv_istore_n (lv' := [(1, .int (0 : Int32)), (0, .ref (B + v0))]) hx hb dX12_unwrite_11 rfl hl (by decide) rfl (fun ls hl => ?_)
    refine lv_iconst (v := 0) hx hb dX12_unwrite_12 (by decide) ?_
    refine lv_istore_n (lv' := [(2, .int (0 : Int32)), (1, .int (0 : Int32)), (0, .ref (B + v0))]) hx hb dX12_unwrite_13 rfl hl (by decide) rfl (fun ls hl => ?_)
    obtain ⟨x55, g57, h58, hf⟩ := hs_bd_some hf
    refine wX12_unwrite_14 hX (fun H locs ls hP hS hl => ?_) hs_N _ _ _ h58 _ _ _ hP hS (lv_sub hl [2, 1, 0] rfl)
    refine lv_iload_n hx hb dX12_unwrite_158 rfl (lv_at hl 0 rfl) ?_
    exact hs_iret hx hb hr hlocks rfl hK hP hS hf dX12_unwrite_159
  · replace hf := hs_t hf hc
    refine lv_bipush (v := -2) hx hb dX12_unwrite_7 (by decide) ?_
    exact hs_iret hx hb hr hlocks rfl hK hP hS hf dX12_unwrite_9

theorem dX12_clear_0 : decode cX12_clear 0 = .ok (.aload_n 0, 1) := by decide +kernel
theorem dX12_clear_1 : decode cX12_clear 1 = .ok (.iconst 0, 1) := by decide +kernel
theorem dX12_clear_2 : decode cX12_clear 2 = .ok (.putfield 124, 3) := by decide +kernel
theorem dX12_clear_5 : decode cX12_clear 5 = .ok (.aload_n 0, 1) := by decide +kernel
theorem dX12_clear_6 : decode cX12_clear 6 = .ok (.iconst 0, 1) := by decide +kernel
theorem dX12_clear_7 : decode cX12_clear 7 = .ok (.putfield 191, 3) := by decide +kernel
theorem dX12_clear_10 : decode cX12_clear 10 = .ok (.aload_n 0, 1) := by decide +kernel
theorem dX12_clear_11 : decode cX12_clear 11 = .ok (.iconst 0, 1) := by decide +kernel
theorem dX12_clear_12 : decode cX12_clear 12 = .ok (.putfield 195, 3) := by decide +kernel
theorem dX12_clear_15 : decode cX12_clear 15 = .ok (.aload_n 0, 1) := by decide +kernel
theorem dX12_clear_16 : decode cX12_clear 16 = .ok (.invokevirtual 117, 3) := by decide +kernel
theorem dX12_clear_19 : decode cX12_clear 19 = .ok (.iconst 0, 1) := by decide +kernel
theorem dX12_clear_20 : decode cX12_clear 20 = .ok (.istore_n 1, 1) := by decide +kernel
theorem dX12_clear_21 : decode cX12_clear 21 = .ok (.iload_n 1, 1) := by decide +kernel
theorem dX12_clear_22 : decode cX12_clear 22 = .ok (.iconst 4, 1) := by decide +kernel
theorem dX12_clear_23 : decode cX12_clear 23 = .ok (.if_icmp .ge 16, 3) := by decide +kernel
theorem dX12_clear_26 : decode cX12_clear 26 = .ok (.aload_n 0, 1) := by decide +kernel
theorem dX12_clear_27 : decode cX12_clear 27 = .ok (.getfield 96, 3) := by decide +kernel
theorem dX12_clear_30 : decode cX12_clear 30 = .ok (.iload_n 1, 1) := by decide +kernel
theorem dX12_clear_31 : decode cX12_clear 31 = .ok (.iconst 0, 1) := by decide +kernel
theorem dX12_clear_32 : decode cX12_clear 32 = .ok (.iastore, 1) := by decide +kernel
theorem dX12_clear_33 : decode cX12_clear 33 = .ok (.iinc 1 1, 3) := by decide +kernel
theorem dX12_clear_36 : decode cX12_clear 36 = .ok (.goto (-15), 3) := by decide +kernel
theorem dX12_clear_39 : decode cX12_clear 39 = .ok (.aload_n 0, 1) := by decide +kernel
theorem dX12_clear_40 : decode cX12_clear 40 = .ok (.iconst 0, 1) := by decide +kernel
theorem dX12_clear_41 : decode cX12_clear 41 = .ok (.putfield 258, 3) := by decide +kernel
theorem dX12_clear_44 : decode cX12_clear 44 = .ok (.aload_n 0, 1) := by decide +kernel
theorem dX12_clear_45 : decode cX12_clear 45 = .ok (.iconst 0, 1) := by decide +kernel
theorem dX12_clear_46 : decode cX12_clear 46 = .ok (.putfield 251, 3) := by decide +kernel
theorem dX12_clear_49 : decode cX12_clear 49 = .ok (.aload_n 0, 1) := by decide +kernel
theorem dX12_clear_50 : decode cX12_clear 50 = .ok (.iconst 0, 1) := by decide +kernel
theorem dX12_clear_51 : decode cX12_clear 51 = .ok (.putfield 261, 3) := by decide +kernel
theorem dX12_clear_54 : decode cX12_clear 54 = .ok (.return_, 1) := by decide +kernel
abbrev wcX12_clear : List Cond := .code yX12_clear cX12_clear 2 none :: wsL_law
def lX12_clear_21 : Nat → Nat → Int32 → hs_S → Option (hs_S)
  | 0, _, _, _ => none
  | n + 1, v0, v1, g =>
    if (4 : Int32) ≤ v1 then (
      some g
    ) else (
      if hs_kd g v0 = 10 then
      if ¬ (hs_R g v0 34) = 0 then
      if hs_kd g ((hs_R g v0 34) - 1) = 100 then
      if hs_in v1 (hs_ln g ((hs_R g v0 34) - 1)) = true then
      lX12_clear_21 n v0 (v1 + (1 : Int32)) (hs_wI g ((hs_R g v0 34) - 1) v1.toNatClampNeg (0 : Int32))
      else none else none else none else none
    )
theorem lX12_clear_21_s (n : Nat) (v0 : Nat) (v1 : Int32) (g : hs_S) : lX12_clear_21 (n + 1) v0 v1 g =
    if (4 : Int32) ≤ v1 then (
      some g
    ) else (
      if hs_kd g v0 = 10 then
      if ¬ (hs_R g v0 34) = 0 then
      if hs_kd g ((hs_R g v0 34) - 1) = 100 then
      if hs_in v1 (hs_ln g ((hs_R g v0 34) - 1)) = true then
      lX12_clear_21 n v0 (v1 + (1 : Int32)) (hs_wI g ((hs_R g v0 34) - 1) v1.toNatClampNeg (0 : Int32))
      else none else none else none else none
    ) := rfl
def fX12_clear (v0 : Nat) (g : hs_S) : Option (hs_S) :=
  if hs_kd g v0 = 10 then
  hs_bv (fX12_begin v0 (hs_wI (hs_wI (hs_wI g v0 2 (0 : Int32)) v0 3 (0 : Int32)) v0 22 (0 : Int32))) fun g2 =>
  hs_bv (lX12_clear_21 hs_N v0 (0 : Int32) g2) fun g10 =>
  if hs_kd g10 v0 = 10 then
  some (hs_wI (hs_wI (hs_wI g10 v0 36 (0 : Int32)) v0 37 (0 : Int32)) v0 38 (0 : Int32))
  else none else none
abbrev rmX12_clear : Room := { frames := 1, cells := 0, slots := 0, locals := 21 }
set_option maxHeartbeats 4000000 in
set_option maxRecDepth 100000 in
theorem wX12_clear_21 {p : Program} {l : Launch} {e : Env} {s : State} {m : MethodId} {args : Array Value} {below : List Frame} {meth : Method} {c : Code} {B : Nat} {D : va_G} {E : Nat → ClassId} (hX : hs_cx cX12_clear none 2 RX12 wcX12_clear p s m args meth c D E) {Q : State → Prop} {o : hs_S} {v0 : Nat} (hex0 : ∀ (H : Heap) (locs : List Loc) (ls : Array Slot), hs_P B D E (o) H → hs_Sx B s.heap H locs → lv_has ls 2 [(0, .ref (B + v0))] → W p l e rmX12_clear s m args below meth c H locs 0 0 Q (F0 m 39 ls [])) : ∀ (n : Nat) (v1 : Int32) (g : hs_S), lX12_clear_21 n v0 v1 g = some o → ∀ (H : Heap) (locs : List Loc) (ls : Array Slot), hs_P B D E g H → hs_Sx B s.heap H locs → lv_has ls 2 [(0, .ref (B + v0)), (1, .int v1)] → W p l e rmX12_clear s m args below meth c H locs 0 0 Q (F0 m 21 ls []) := by
  obtain ⟨hx, hb, hr, hml, hown, hts, hlocks, hK⟩ := id hX
  intro n
  induction n with
  | zero =>
    intro v1 g hf
    cases hf
  | succ n ih =>
    intro v1 g hf H locs ls hP hS hl
    replace hf := (lX12_clear_21_s n v0 v1 g).symm.trans hf
    refine lv_iload_n hx hb dX12_clear_21 rfl (lv_at hl 1 rfl) ?_
    refine lv_iconst (v := 4) hx hb dX12_clear_22 (by decide) ?_
    refine lv_icmp_ge (tgt := 39) hx hb dX12_clear_23 (by decide) (fun hc => ?_) (fun hc => ?_)
    · replace hf := hs_t hf hc
      obtain rfl := Option.some.inj hf
      exact hex0 _ _ _ hP hS (lv_sub hl [0] rfl)
    · replace hf := hs_f hf hc
      refine lv_aload_n hx hb dX12_clear_26 rfl (lv_at hl 0 rfl) ?_
      obtain ⟨h5, hf⟩ := hs_ck hf
      obtain ⟨h6, hf⟩ := hs_ck hf
      refine hs_getr (C := RX12) (T := TX12) (N := 48) hx hb hts (fun w h => List.mem_cons_of_mem _ (inlX12 w h)) hown hK.1 hP h5 (by decide) rfl 34 (by decide) (hts _ (List.mem_cons_of_mem _ wq150)) (fun _ h => h) rfl h6 dX12_clear_27 ?_
      refine lv_iload_n hx hb dX12_clear_30 rfl (lv_at hl 1 rfl) ?_
      refine lv_iconst (v := 0) hx hb dX12_clear_31 (by decide) ?_
      obtain ⟨h7, hf⟩ := hs_ck hf
      obtain ⟨h8, hf⟩ := hs_ck hf
      refine hs_iast hx hb hK.1 hP hS h7 h8 dX12_clear_32 (fun H locs hP hS => ?_)
      refine lv_iinc (v := (v1 + (1 : Int32))) (lv' := [(1, .int (v1 + (1 : Int32))), (0, .ref (B + v0))]) hx hb dX12_clear_33 hl (k := 1) rfl (by rfl) (by decide) rfl (fun ls hl => ?_)
      refine lv_goto (tgt := 21) hx hb dX12_clear_36 (by decide) ?_
      exact ih _ _ hf _ _ _ hP hS (lv_sub hl [1, 0] rfl)

set_option maxHeartbeats 4000000 in
set_option maxRecDepth 100000 in
theorem ctX12_clear (l : Launch) (B : Nat) (D : va_G) (E : Nat → ClassId) (v0 : Nat) (g : hs_S) (o : hs_S) (hf : fX12_clear v0 g = some o) : Met l yX12_clear wcX12_clear rmX12_clear (hs_Pc B D E g [.ref (B + v0)]) (hs_Qv B D E o) (0) (0) (hs_F B) := by
  refine Met.ofW (cc := cX12_clear) (maxL := 2) (ret := none) (by decide) rfl ?_
  intro p e s m args below meth c s₁ Bd hml hv
  obtain ⟨rfl, hP, hK⟩ := hv
  have hx := Bd.exec
  have hb := Bd.bytes
  have hr := Bd.returns
  have hts := atoms_spec (ws := wcX12_clear) Bd.pre
  have hown : s.vm.findClass RX12 = some m.cls := findClass_of_methodNamed Bd.named
  have hlocks := Bd.notSynchronized
  have hS : hs_Sx B s.heap s.heap [] := va_S.rf
  have hX : hs_cx cX12_clear none 2 RX12 wcX12_clear p s m (List.toArray [.ref (B + v0)]) meth c D E := ⟨hx, hb, hr, hml, hown, hts, hlocks, hK⟩
  have hl := lv_entry ([.ref (B + v0)]) (n := 2) (Nat.le_of_ble_eq_true rfl)
  rw [lg_entry_eq]
  generalize (lg_sl ([.ref (B + v0)]) ++ List.replicate (2 - (lg_sl ([.ref (B + v0)])).length) Slot.unset).toArray = ls at hl ⊢
  have hl : lv_has ls 2 [(0, .ref (B + v0))] := hl
  have hP : hs_P B D E g s.heap := hP
  unfold fX12_clear at hf
  refine lv_aload_n hx hb dX12_clear_0 rfl (lv_at hl 0 rfl) ?_
  refine lv_iconst (v := 0) hx hb dX12_clear_1 (by decide) ?_
  obtain ⟨h1, hf⟩ := hs_ck hf
  refine hs_puti (C := RX12) (T := TX12) (N := 48) hx hb hts (fun w h => List.mem_cons_of_mem _ (inlX12 w h)) tyX12 tyX12_ok nmX12 hown hK.1 hP hS h1 (by decide) rfl 2 (by decide) (hts _ (List.mem_cons_of_mem _ wq176)) (fun _ h => h) (Or.inl rfl) rfl rfl rfl dX12_clear_2 (fun H locs hP hS => ?_)
  refine lv_aload_n hx hb dX12_clear_5 rfl (lv_at hl 0 rfl) ?_
  refine lv_iconst (v := 0) hx hb dX12_clear_6 (by decide) ?_
  refine hs_puti (C := RX12) (T := TX12) (N := 48) hx hb hts (fun w h => List.mem_cons_of_mem _ (inlX12 w h)) tyX12 tyX12_ok nmX12 hown hK.1 hP hS h1 (by decide) rfl 3 (by decide) (hts _ (List.mem_cons_of_mem _ wq393)) (fun _ h => h) (Or.inl rfl) (hs_01_nar (rfl)) (hs_01_fit (rfl)) rfl dX12_clear_7 (fun H locs hP hS => ?_)
  refine lv_aload_n hx hb dX12_clear_10 rfl (lv_at hl 0 rfl) ?_
  refine lv_iconst (v := 0) hx hb dX12_clear_11 (by decide) ?_
  refine hs_puti (C := RX12) (T := TX12) (N := 48) hx hb hts (fun w h => List.mem_cons_of_mem _ (inlX12 w h)) tyX12 tyX12_ok nmX12 hown hK.1 hP hS h1 (by decide) rfl 22 (by decide) (hts _ (List.mem_cons_of_mem _ wq394)) (fun _ h => h) (Or.inl rfl) (hs_01_nar (rfl)) (hs_01_fit (rfl)) rfl dX12_clear_12 (fun H locs hP hS => ?_)
  refine lv_aload_n hx hb dX12_clear_15 rfl (lv_at hl 0 rfl) ?_
  obtain ⟨g2, h4, hf⟩ := hs_bv_some hf
  refine hs_callv (va_runV (As := []) (rest := []) ⟨hx, hb, hml, hown, hts⟩ (ctX12_begin l B D E v0 (hs_wI (hs_wI (hs_wI g v0 2 (0 : Int32)) v0 3 (0 : Int32)) v0 22 (0 : Int32)) _ h4) (cwV 0 hts (hs_gV (fun _ h => List.mem_cons_of_mem _ h) wq157 wq158 wq159 wq5 wq160) rfl rfl rfl (by decide +kernel) ⟨Nat.le_of_ble_eq_true rfl, Nat.le_of_ble_eq_true rfl⟩) (hs_preV (r := (RX12, TX12, 48)) hP hK h1 (by decide) rfl) rfl rfl hl.1 rfl (lv_room (Nat.le_of_ble_eq_true rfl)) dX12_clear_16 ⟨(Nat.le_of_ble_eq_true rfl), (Nat.le_of_ble_eq_true rfl)⟩) hS (fun H locs hP hS => ?_)
  refine lv_iconst (v := 0) hx hb dX12_clear_19 (by decide) ?_
  refine lv_istore_n (lv' := [(1, .int (0 : Int32)), (0, .ref (B + v0))]) hx hb dX12_clear_20 rfl hl (by decide) rfl (fun ls hl => ?_)
  obtain ⟨g10, h11, hf⟩ := hs_bv_some hf
  refine wX12_clear_21 hX (fun H locs ls hP hS hl => ?_) hs_N _ _ h11 _ _ _ hP hS (lv_sub hl [1, 0] rfl)
  refine lv_aload_n hx hb dX12_clear_39 rfl (lv_at hl 0 rfl) ?_
  refine lv_iconst (v := 0) hx hb dX12_clear_40 (by decide) ?_
  obtain ⟨h12, hf⟩ := hs_ck hf
  refine hs_puti (C := RX12) (T := TX12) (N := 48) hx hb hts (fun w h => List.mem_cons_of_mem _ (inlX12 w h)) tyX12 tyX12_ok nmX12 hown hK.1 hP hS h12 (by decide) rfl 36 (by decide) (hts _ (List.mem_cons_of_mem _ wq855)) (fun _ h => h) (Or.inl rfl) rfl rfl rfl dX12_clear_41 (fun H locs hP hS => ?_)
  refine lv_aload_n hx hb dX12_clear_44 rfl (lv_at hl 0 rfl) ?_
  refine lv_iconst (v := 0) hx hb dX12_clear_45 (by decide) ?_
  refine hs_puti (C := RX12) (T := TX12) (N := 48) hx hb hts (fun w h => List.mem_cons_of_mem _ (inlX12 w h)) tyX12 tyX12_ok nmX12 hown hK.1 hP hS h12 (by decide) rfl 37 (by decide) (hts _ (List.mem_cons_of_mem _ wq856)) (fun _ h => h) (Or.inl rfl) rfl rfl rfl dX12_clear_46 (fun H locs hP hS => ?_)
  refine lv_aload_n hx hb dX12_clear_49 rfl (lv_at hl 0 rfl) ?_
  refine lv_iconst (v := 0) hx hb dX12_clear_50 (by decide) ?_
  refine hs_puti (C := RX12) (T := TX12) (N := 48) hx hb hts (fun w h => List.mem_cons_of_mem _ (inlX12 w h)) tyX12 tyX12_ok nmX12 hown hK.1 hP hS h12 (by decide) rfl 38 (by decide) (hts _ (List.mem_cons_of_mem _ wq857)) (fun _ h => h) (Or.inl rfl) rfl rfl rfl dX12_clear_51 (fun H locs hP hS => ?_)
  exact hs_vret hx hb hr hlocks hK hP hS hf dX12_clear_54

