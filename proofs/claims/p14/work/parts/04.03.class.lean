theorem dX2_wrongHandler_0 : decode cX2_wrongHandler 0 = .ok (.iconst 0, 1) := by decide +kernel
theorem dX2_wrongHandler_1 : decode cX2_wrongHandler 1 = .ok (.istore_n 3, 1) := by decide +kernel
theorem dX2_wrongHandler_2 : decode cX2_wrongHandler 2 = .ok (.iload_n 3, 1) := by decide +kernel
theorem dX2_wrongHandler_3 : decode cX2_wrongHandler 3 = .ok (.aload_n 2, 1) := by decide +kernel
theorem dX2_wrongHandler_4 : decode cX2_wrongHandler 4 = .ok (.getfield 47, 3) := by decide +kernel
theorem dX2_wrongHandler_7 : decode cX2_wrongHandler 7 = .ok (.if_icmp .ge 152, 3) := by decide +kernel
theorem dX2_wrongHandler_10 : decode cX2_wrongHandler 10 = .ok (.aload_n 0, 1) := by decide +kernel
theorem dX2_wrongHandler_11 : decode cX2_wrongHandler 11 = .ok (.aload_n 2, 1) := by decide +kernel
theorem dX2_wrongHandler_12 : decode cX2_wrongHandler 12 = .ok (.iload_n 3, 1) := by decide +kernel
theorem dX2_wrongHandler_13 : decode cX2_wrongHandler 13 = .ok (.invokevirtual 52, 3) := by decide +kernel
theorem dX2_wrongHandler_16 : decode cX2_wrongHandler 16 = .ok (.istore 4, 2) := by decide +kernel
theorem dX2_wrongHandler_18 : decode cX2_wrongHandler 18 = .ok (.aload_n 1, 1) := by decide +kernel
theorem dX2_wrongHandler_19 : decode cX2_wrongHandler 19 = .ok (.iload 4, 2) := by decide +kernel
theorem dX2_wrongHandler_21 : decode cX2_wrongHandler 21 = .ok (.invokevirtual 88, 3) := by decide +kernel
theorem dX2_wrongHandler_24 : decode cX2_wrongHandler 24 = .ok (.istore 5, 2) := by decide +kernel
theorem dX2_wrongHandler_26 : decode cX2_wrongHandler 26 = .ok (.aload_n 1, 1) := by decide +kernel
theorem dX2_wrongHandler_27 : decode cX2_wrongHandler 27 = .ok (.iload 4, 2) := by decide +kernel
theorem dX2_wrongHandler_29 : decode cX2_wrongHandler 29 = .ok (.iconst 2, 1) := by decide +kernel
theorem dX2_wrongHandler_30 : decode cX2_wrongHandler 30 = .ok (.iadd, 1) := by decide +kernel
theorem dX2_wrongHandler_31 : decode cX2_wrongHandler 31 = .ok (.invokevirtual 88, 3) := by decide +kernel
theorem dX2_wrongHandler_34 : decode cX2_wrongHandler 34 = .ok (.istore 6, 2) := by decide +kernel
theorem dX2_wrongHandler_36 : decode cX2_wrongHandler 36 = .ok (.aload_n 1, 1) := by decide +kernel
theorem dX2_wrongHandler_37 : decode cX2_wrongHandler 37 = .ok (.iload 4, 2) := by decide +kernel
theorem dX2_wrongHandler_39 : decode cX2_wrongHandler 39 = .ok (.iconst 4, 1) := by decide +kernel
theorem dX2_wrongHandler_40 : decode cX2_wrongHandler 40 = .ok (.iadd, 1) := by decide +kernel
theorem dX2_wrongHandler_41 : decode cX2_wrongHandler 41 = .ok (.invokevirtual 88, 3) := by decide +kernel
theorem dX2_wrongHandler_44 : decode cX2_wrongHandler 44 = .ok (.istore 7, 2) := by decide +kernel
theorem dX2_wrongHandler_46 : decode cX2_wrongHandler 46 = .ok (.aload_n 1, 1) := by decide +kernel
theorem dX2_wrongHandler_47 : decode cX2_wrongHandler 47 = .ok (.iload 4, 2) := by decide +kernel
theorem dX2_wrongHandler_49 : decode cX2_wrongHandler 49 = .ok (.bipush 6, 2) := by decide +kernel
theorem dX2_wrongHandler_51 : decode cX2_wrongHandler 51 = .ok (.iadd, 1) := by decide +kernel
theorem dX2_wrongHandler_52 : decode cX2_wrongHandler 52 = .ok (.invokevirtual 18, 3) := by decide +kernel
theorem dX2_wrongHandler_55 : decode cX2_wrongHandler 55 = .ok (.istore 8, 2) := by decide +kernel
theorem dX2_wrongHandler_57 : decode cX2_wrongHandler 57 = .ok (.iload 6, 2) := by decide +kernel
theorem dX2_wrongHandler_59 : decode cX2_wrongHandler 59 = .ok (.iload 5, 2) := by decide +kernel
theorem dX2_wrongHandler_61 : decode cX2_wrongHandler 61 = .ok (.if_icmp .le 25, 3) := by decide +kernel
theorem dX2_wrongHandler_64 : decode cX2_wrongHandler 64 = .ok (.aload_n 2, 1) := by decide +kernel
theorem dX2_wrongHandler_65 : decode cX2_wrongHandler 65 = .ok (.iload 6, 2) := by decide +kernel
theorem dX2_wrongHandler_67 : decode cX2_wrongHandler 67 = .ok (.invokevirtual 118, 3) := by decide +kernel
theorem dX2_wrongHandler_70 : decode cX2_wrongHandler 70 = .ok (.ifCond .ne 12, 3) := by decide +kernel
theorem dX2_wrongHandler_73 : decode cX2_wrongHandler 73 = .ok (.iload 6, 2) := by decide +kernel
theorem dX2_wrongHandler_75 : decode cX2_wrongHandler 75 = .ok (.aload_n 2, 1) := by decide +kernel
theorem dX2_wrongHandler_76 : decode cX2_wrongHandler 76 = .ok (.getfield 59, 3) := by decide +kernel
theorem dX2_wrongHandler_79 : decode cX2_wrongHandler 79 = .ok (.if_icmp .ne 7, 3) := by decide +kernel
theorem dX2_wrongHandler_82 : decode cX2_wrongHandler 82 = .ok (.iconst 1, 1) := by decide +kernel
theorem dX2_wrongHandler_83 : decode cX2_wrongHandler 83 = .ok (.goto 4, 3) := by decide +kernel
theorem dX2_wrongHandler_86 : decode cX2_wrongHandler 86 = .ok (.iconst 0, 1) := by decide +kernel
theorem dX2_wrongHandler_87 : decode cX2_wrongHandler 87 = .ok (.istore 9, 2) := by decide +kernel
theorem dX2_wrongHandler_89 : decode cX2_wrongHandler 89 = .ok (.aload_n 2, 1) := by decide +kernel
theorem dX2_wrongHandler_90 : decode cX2_wrongHandler 90 = .ok (.iload 5, 2) := by decide +kernel
theorem dX2_wrongHandler_92 : decode cX2_wrongHandler 92 = .ok (.invokevirtual 118, 3) := by decide +kernel
theorem dX2_wrongHandler_95 : decode cX2_wrongHandler 95 = .ok (.ifCond .eq 23, 3) := by decide +kernel
theorem dX2_wrongHandler_98 : decode cX2_wrongHandler 98 = .ok (.aload_n 2, 1) := by decide +kernel
theorem dX2_wrongHandler_99 : decode cX2_wrongHandler 99 = .ok (.iload 7, 2) := by decide +kernel
theorem dX2_wrongHandler_101 : decode cX2_wrongHandler 101 = .ok (.invokevirtual 118, 3) := by decide +kernel
theorem dX2_wrongHandler_104 : decode cX2_wrongHandler 104 = .ok (.ifCond .eq 14, 3) := by decide +kernel
theorem dX2_wrongHandler_107 : decode cX2_wrongHandler 107 = .ok (.iload 9, 2) := by decide +kernel
theorem dX2_wrongHandler_109 : decode cX2_wrongHandler 109 = .ok (.ifCond .eq 9, 3) := by decide +kernel
theorem dX2_wrongHandler_112 : decode cX2_wrongHandler 112 = .ok (.iload 8, 2) := by decide +kernel
theorem dX2_wrongHandler_114 : decode cX2_wrongHandler 114 = .ok (.iconst 4, 1) := by decide +kernel
theorem dX2_wrongHandler_115 : decode cX2_wrongHandler 115 = .ok (.if_icmp .le 6, 3) := by decide +kernel
theorem dX2_wrongHandler_118 : decode cX2_wrongHandler 118 = .ok (.iload 4, 2) := by decide +kernel
theorem dX2_wrongHandler_120 : decode cX2_wrongHandler 120 = .ok (.ireturn, 1) := by decide +kernel
theorem dX2_wrongHandler_121 : decode cX2_wrongHandler 121 = .ok (.aload_n 2, 1) := by decide +kernel
theorem dX2_wrongHandler_122 : decode cX2_wrongHandler 122 = .ok (.iload_n 3, 1) := by decide +kernel
theorem dX2_wrongHandler_123 : decode cX2_wrongHandler 123 = .ok (.iconst 0, 1) := by decide +kernel
theorem dX2_wrongHandler_124 : decode cX2_wrongHandler 124 = .ok (.iload 5, 2) := by decide +kernel
theorem dX2_wrongHandler_126 : decode cX2_wrongHandler 126 = .ok (.invokevirtual 121, 3) := by decide +kernel
theorem dX2_wrongHandler_129 : decode cX2_wrongHandler 129 = .ok (.aload_n 2, 1) := by decide +kernel
theorem dX2_wrongHandler_130 : decode cX2_wrongHandler 130 = .ok (.iload_n 3, 1) := by decide +kernel
theorem dX2_wrongHandler_131 : decode cX2_wrongHandler 131 = .ok (.iconst 1, 1) := by decide +kernel
theorem dX2_wrongHandler_132 : decode cX2_wrongHandler 132 = .ok (.iload 6, 2) := by decide +kernel
theorem dX2_wrongHandler_134 : decode cX2_wrongHandler 134 = .ok (.invokevirtual 121, 3) := by decide +kernel
theorem dX2_wrongHandler_137 : decode cX2_wrongHandler 137 = .ok (.aload_n 2, 1) := by decide +kernel
theorem dX2_wrongHandler_138 : decode cX2_wrongHandler 138 = .ok (.iload_n 3, 1) := by decide +kernel
theorem dX2_wrongHandler_139 : decode cX2_wrongHandler 139 = .ok (.iconst 2, 1) := by decide +kernel
theorem dX2_wrongHandler_140 : decode cX2_wrongHandler 140 = .ok (.iload 7, 2) := by decide +kernel
theorem dX2_wrongHandler_142 : decode cX2_wrongHandler 142 = .ok (.invokevirtual 121, 3) := by decide +kernel
theorem dX2_wrongHandler_145 : decode cX2_wrongHandler 145 = .ok (.aload_n 2, 1) := by decide +kernel
theorem dX2_wrongHandler_146 : decode cX2_wrongHandler 146 = .ok (.iload_n 3, 1) := by decide +kernel
theorem dX2_wrongHandler_147 : decode cX2_wrongHandler 147 = .ok (.iconst 3, 1) := by decide +kernel
theorem dX2_wrongHandler_148 : decode cX2_wrongHandler 148 = .ok (.iload 8, 2) := by decide +kernel
theorem dX2_wrongHandler_150 : decode cX2_wrongHandler 150 = .ok (.invokevirtual 121, 3) := by decide +kernel
theorem dX2_wrongHandler_153 : decode cX2_wrongHandler 153 = .ok (.iinc 3 1, 3) := by decide +kernel
theorem dX2_wrongHandler_156 : decode cX2_wrongHandler 156 = .ok (.goto (-154), 3) := by decide +kernel
theorem dX2_wrongHandler_159 : decode cX2_wrongHandler 159 = .ok (.iconst (-1), 1) := by decide +kernel
theorem dX2_wrongHandler_160 : decode cX2_wrongHandler 160 = .ok (.ireturn, 1) := by decide +kernel
abbrev wcX2_wrongHandler : List Cond := .code yX2_wrongHandler cX2_wrongHandler 10 (some .int) :: wsL_law
def jX2_wrongHandler_87 (rec : Int32 → hs_S → Option (Nat × Int32 × hs_S)) (v0 : Nat) (v1 : Nat) (v2 : Nat) (v3 : Int32) (v4 : Int32) (v5 : Int32) (v6 : Int32) (v7 : Int32) (v8 : Int32) (s0 : Int32) (g : hs_S) : Option (Nat × Int32 × hs_S) :=
  if hs_kd g v2 = 6 then
  hs_bd (fX7_begins v2 v5 g) fun r24 g23 =>
  if r24 = 0 then (
    some (1, v4, g23)
  ) else (
    if hs_kd g23 v2 = 6 then
    hs_bd (fX7_begins v2 v7 g23) fun r28 g27 =>
    if r28 = 0 then (
      some (1, v4, g27)
    ) else (
      if s0 = 0 then (
        some (1, v4, g27)
      ) else (
        if v8 ≤ (4 : Int32) then (
          if hs_kd g27 v2 = 6 then
          hs_bv (fX7_setHandlerNumber v2 v3 (0 : Int32) v5 g27) fun g31 =>
          if hs_kd g31 v2 = 6 then
          hs_bv (fX7_setHandlerNumber v2 v3 (1 : Int32) v6 g31) fun g35 =>
          if hs_kd g35 v2 = 6 then
          hs_bv (fX7_setHandlerNumber v2 v3 (2 : Int32) v7 g35) fun g39 =>
          if hs_kd g39 v2 = 6 then
          hs_bv (fX7_setHandlerNumber v2 v3 (3 : Int32) v8 g39) fun g43 =>
          rec (v3 + (1 : Int32)) g43
          else none else none else none else none
        ) else (
          some (1, v4, g27)
        )
      )
    )
    else none
  )
  else none
def jX2_wrongHandler_86 (rec : Int32 → hs_S → Option (Nat × Int32 × hs_S)) (v0 : Nat) (v1 : Nat) (v2 : Nat) (v3 : Int32) (v4 : Int32) (v5 : Int32) (v6 : Int32) (v7 : Int32) (v8 : Int32) (g : hs_S) : Option (Nat × Int32 × hs_S) :=
  jX2_wrongHandler_87 rec v0 v1 v2 v3 v4 v5 v6 v7 v8 (0 : Int32) g
def jX2_wrongHandler_82 (rec : Int32 → hs_S → Option (Nat × Int32 × hs_S)) (v0 : Nat) (v1 : Nat) (v2 : Nat) (v3 : Int32) (v4 : Int32) (v5 : Int32) (v6 : Int32) (v7 : Int32) (v8 : Int32) (g : hs_S) : Option (Nat × Int32 × hs_S) :=
  jX2_wrongHandler_87 rec v0 v1 v2 v3 v4 v5 v6 v7 v8 (1 : Int32) g
def lX2_wrongHandler_2 : Nat → Nat → Nat → Nat → Int32 → hs_S → Option (Nat × Int32 × hs_S)
  | 0, _, _, _, _, _ => none
  | n + 1, v0, v1, v2, v3, g =>
    if hs_kd g v2 = 6 then
    if (hs_I g v2 6) ≤ v3 then (
      some (0, 0, g)
    ) else (
      if hs_kd g v0 = 2 then
      hs_bd (fX2_handlerPlace v0 v2 v3 g) fun r4 g3 =>
      if hs_kd g3 v1 = 0 then
      hs_bd (fX0_pairAt v1 r4 g3) fun r8 g7 =>
      if hs_kd g7 v1 = 0 then
      hs_bd (fX0_pairAt v1 (r4 + (2 : Int32)) g7) fun r12 g11 =>
      if hs_kd g11 v1 = 0 then
      hs_bd (fX0_pairAt v1 (r4 + (4 : Int32)) g11) fun r16 g15 =>
      if hs_kd g15 v1 = 0 then
      hs_bd (fX0_valueAt v1 (r4 + (6 : Int32)) g15) fun r20 g19 =>
      if r12 ≤ r8 then (
        jX2_wrongHandler_86 (fun y0 g => lX2_wrongHandler_2 n v0 v1 v2 y0 g) v0 v1 v2 v3 r4 r8 r12 r16 r20 g19
      ) else (
        if hs_kd g19 v2 = 6 then
        hs_bd (fX7_begins v2 r12 g19) fun r48 g47 =>
        if r48 = 0 then (
          if hs_kd g47 v2 = 6 then
          if r12 = (hs_I g47 v2 3) then (
            jX2_wrongHandler_82 (fun y0 g => lX2_wrongHandler_2 n v0 v1 v2 y0 g) v0 v1 v2 v3 r4 r8 r12 r16 r20 g47
          ) else (
            jX2_wrongHandler_86 (fun y0 g => lX2_wrongHandler_2 n v0 v1 v2 y0 g) v0 v1 v2 v3 r4 r8 r12 r16 r20 g47
          )
          else none
        ) else (
          jX2_wrongHandler_82 (fun y0 g => lX2_wrongHandler_2 n v0 v1 v2 y0 g) v0 v1 v2 v3 r4 r8 r12 r16 r20 g47
        )
        else none
      )
      else none else none else none else none else none
    )
    else none
theorem lX2_wrongHandler_2_s (n : Nat) (v0 : Nat) (v1 : Nat) (v2 : Nat) (v3 : Int32) (g : hs_S) : lX2_wrongHandler_2 (n + 1) v0 v1 v2 v3 g =
    if hs_kd g v2 = 6 then
    if (hs_I g v2 6) ≤ v3 then (
      some (0, 0, g)
    ) else (
      if hs_kd g v0 = 2 then
      hs_bd (fX2_handlerPlace v0 v2 v3 g) fun r4 g3 =>
      if hs_kd g3 v1 = 0 then
      hs_bd (fX0_pairAt v1 r4 g3) fun r8 g7 =>
      if hs_kd g7 v1 = 0 then
      hs_bd (fX0_pairAt v1 (r4 + (2 : Int32)) g7) fun r12 g11 =>
      if hs_kd g11 v1 = 0 then
      hs_bd (fX0_pairAt v1 (r4 + (4 : Int32)) g11) fun r16 g15 =>
      if hs_kd g15 v1 = 0 then
      hs_bd (fX0_valueAt v1 (r4 + (6 : Int32)) g15) fun r20 g19 =>
      if r12 ≤ r8 then (
        jX2_wrongHandler_86 (fun y0 g => lX2_wrongHandler_2 n v0 v1 v2 y0 g) v0 v1 v2 v3 r4 r8 r12 r16 r20 g19
      ) else (
        if hs_kd g19 v2 = 6 then
        hs_bd (fX7_begins v2 r12 g19) fun r48 g47 =>
        if r48 = 0 then (
          if hs_kd g47 v2 = 6 then
          if r12 = (hs_I g47 v2 3) then (
            jX2_wrongHandler_82 (fun y0 g => lX2_wrongHandler_2 n v0 v1 v2 y0 g) v0 v1 v2 v3 r4 r8 r12 r16 r20 g47
          ) else (
            jX2_wrongHandler_86 (fun y0 g => lX2_wrongHandler_2 n v0 v1 v2 y0 g) v0 v1 v2 v3 r4 r8 r12 r16 r20 g47
          )
          else none
        ) else (
          jX2_wrongHandler_82 (fun y0 g => lX2_wrongHandler_2 n v0 v1 v2 y0 g) v0 v1 v2 v3 r4 r8 r12 r16 r20 g47
        )
        else none
      )
      else none else none else none else none else none
    )
    else none := rfl
def fX2_wrongHandler (v0 : Nat) (v1 : Nat) (v2 : Nat) (g : hs_S) : Option (Int32 × hs_S) :=
  hs_b3 (lX2_wrongHandler_2 hs_N v0 v1 v2 (0 : Int32) g) fun k52 x51 g53 =>
  if k52 = 0 then (
    some ((-1 : Int32), g53)
  ) else (
    some (x51, g53)
  )
abbrev rmX2_wrongHandler : Room := { frames := 3, cells := 0, slots := 0, locals := 63 }
set_option maxHeartbeats 4000000 in
set_option maxRecDepth 100000 in
theorem wX2_wrongHandler_j87 {p : Program} {l : Launch} {e : Env} {s : State} {m : MethodId} {args : Array Value} {below : List Frame} {meth : Method} {c : Code} {B : Nat} {D : va_G} {E : Nat → ClassId} (hX : hs_cx cX2_wrongHandler (some .int) 10 RX2 wcX2_wrongHandler p s m args meth c D E) {Q : State → Prop} {o : Nat × Int32 × hs_S} {rec : Int32 → hs_S → Option (Nat × Int32 × hs_S)} {v0 : Nat} {v1 : Nat} {v2 : Nat} {v3 : Int32} {v4 : Int32} {v5 : Int32} {v6 : Int32} {v7 : Int32} {v8 : Int32} {s0 : Int32}  (hrec : ∀ (y0 : Int32) (g : hs_S) (H : Heap) (locs : List Loc) (ls : Array Slot), rec y0 g = some o → hs_P B D E g H → hs_Sx B s.heap H locs → lv_has ls 10 [(0, .ref (B + v0)), (1, .ref (B + v1)), (2, .ref (B + v2)), (3, .int y0)] → W p l e rmX2_wrongHandler s m args below meth c H locs 0 0 Q (F0 m 2 ls [])) (hex0 : o.1 = 0 → ∀ (H : Heap) (locs : List Loc) (ls : Array Slot), hs_P B D E (o.2.2) H → hs_Sx B s.heap H locs → lv_has ls 10 [] → W p l e rmX2_wrongHandler s m args below meth c H locs 0 0 Q (F0 m 159 ls [])) (hex1 : o.1 = 1 → ∀ (H : Heap) (locs : List Loc) (ls : Array Slot), hs_P B D E (o.2.2) H → hs_Sx B s.heap H locs → lv_has ls 10 [(4, .int (o.2.1))] → W p l e rmX2_wrongHandler s m args below meth c H locs 0 0 Q (F0 m 118 ls [])) {g : hs_S} {H : Heap} {locs : List Loc} {ls : Array Slot} (hf : jX2_wrongHandler_87 rec v0 v1 v2 v3 v4 v5 v6 v7 v8 s0 g = some o) (hP : hs_P B D E g H) (hS : hs_Sx B s.heap H locs) (hl : lv_has ls 10 [(0, .ref (B + v0)), (1, .ref (B + v1)), (2, .ref (B + v2)), (3, .int v3), (4, .int v4), (5, .int v5), (6, .int v6), (7, .int v7), (8, .int v8)]) : W p l e rmX2_wrongHandler s m args below meth c H locs 0 0 Q (F0 m 87 ls [.int s0]) := by
  obtain ⟨hx, hb, hr, hml, hown, hts, hlocks, hK⟩ := id hX
  unfold jX2_wrongHandler_87 at hf
  refine lv_istore (lv' := [(9, .int s0), (0, .ref (B + v0)), (1, .ref (B + v1)), (2, .ref (B + v2)), (3, .int v3), (4, .int v4), (5, .int v5), (6, .int v6), (7, .int v7), (8, .int v8)]) hx hb dX2_wrongHandler_87 hl (by decide) rfl (fun ls hl => ?_)
  refine lv_aload_n hx hb dX2_wrongHandler_89 rfl (lv_at hl 3 rfl) ?_
  refine lv_iload hx hb dX2_wrongHandler_90 (lv_at hl 6 rfl) ?_
  obtain ⟨h22, hf⟩ := hs_ck hf
  obtain ⟨r24, g23, h25, hf⟩ := hs_bd_some hf
  refine hs_calli (va_runV (As := [.int v5]) (rest := []) ⟨hx, hb, hml, hown, hts⟩ (ctX7_begins l B D E v2 v5 g _ h25) (cwV 1 hts (hs_gV (fun _ h => List.mem_cons_of_mem _ h) wq288 wq289 wq290 wq43 wq291) rfl rfl rfl (by decide +kernel) ⟨Nat.le_of_ble_eq_true rfl, Nat.le_of_ble_eq_true rfl⟩) (hs_preV (r := (RX7, TX7, 11)) hP hK h22 (by decide) rfl) rfl rfl hl.1 rfl (lv_room (Nat.le_of_ble_eq_true rfl)) dX2_wrongHandler_92 ⟨(Nat.le_of_ble_eq_true rfl), (Nat.le_of_ble_eq_true rfl)⟩) hS (fun H locs hP hS => ?_)
  refine lv_if_eq (tgt := 118) hx hb dX2_wrongHandler_95 (by decide) (fun hc => ?_) (fun hc => ?_)
  · replace hf := hs_t hf hc
    obtain rfl := Option.some.inj hf
    exact hex1 rfl _ _ _ hP hS (lv_sub hl [5] rfl)
  · replace hf := hs_f hf hc
    refine lv_aload_n hx hb dX2_wrongHandler_98 rfl (lv_at hl 3 rfl) ?_
    refine lv_iload hx hb dX2_wrongHandler_99 (lv_at hl 8 rfl) ?_
    obtain ⟨h26, hf⟩ := hs_ck hf
    obtain ⟨r28, g27, h29, hf⟩ := hs_bd_some hf
    refine hs_calli (va_runV (As := [.int v7]) (rest := []) ⟨hx, hb, hml, hown, hts⟩ (ctX7_begins l B D E v2 v7 g23 _ h29) (cwV 1 hts (hs_gV (fun _ h => List.mem_cons_of_mem _ h) wq288 wq289 wq290 wq43 wq291) rfl rfl rfl (by decide +kernel) ⟨Nat.le_of_ble_eq_true rfl, Nat.le_of_ble_eq_true rfl⟩) (hs_preV (r := (RX7, TX7, 11)) hP hK h26 (by decide) rfl) rfl rfl hl.1 rfl (lv_room (Nat.le_of_ble_eq_true rfl)) dX2_wrongHandler_101 ⟨(Nat.le_of_ble_eq_true rfl), (Nat.le_of_ble_eq_true rfl)⟩) hS (fun H locs hP hS => ?_)
    refine lv_if_eq (tgt := 118) hx hb dX2_wrongHandler_104 (by decide) (fun hc => ?_) (fun hc => ?_)
    · replace hf := hs_t hf hc
      obtain rfl := Option.some.inj hf
      exact hex1 rfl _ _ _ hP hS (lv_sub hl [5] rfl)
    · replace hf := hs_f hf hc
      refine lv_iload hx hb dX2_wrongHandler_107 (lv_at hl 0 rfl) ?_
      refine lv_if_eq (tgt := 118) hx hb dX2_wrongHandler_109 (by decide) (fun hc => ?_) (fun hc => ?_)
      · replace hf := hs_t hf hc
        obtain rfl := Option.some.inj hf
        exact hex1 rfl _ _ _ hP hS (lv_sub hl [5] rfl)
      · replace hf := hs_f hf hc
        refine lv_iload hx hb dX2_wrongHandler_112 (lv_at hl 9 rfl) ?_
        refine lv_iconst (v := 4) hx hb dX2_wrongHandler_114 (by decide) ?_
        refine lv_icmp_le (tgt := 121) hx hb dX2_wrongHandler_115 (by decide) (fun hc => ?_) (fun hc => ?_)
        · replace hf := hs_t hf hc
          refine lv_aload_n hx hb dX2_wrongHandler_121 rfl (lv_at hl 3 rfl) ?_
          refine lv_iload_n hx hb dX2_wrongHandler_122 rfl (lv_at hl 4 rfl) ?_
          refine lv_iconst (v := 0) hx hb dX2_wrongHandler_123 (by decide) ?_
          refine lv_iload hx hb dX2_wrongHandler_124 (lv_at hl 6 rfl) ?_
          obtain ⟨h30, hf⟩ := hs_ck hf
          obtain ⟨g31, h33, hf⟩ := hs_bv_some hf
          refine hs_callv (va_runV (As := [.int v3, .int (0 : Int32), .int v5]) (rest := []) ⟨hx, hb, hml, hown, hts⟩ (ctX7_setHandlerNumber l B D E v2 v3 (0 : Int32) v5 g27 _ h33) (cwV 3 hts (hs_gV (fun _ h => List.mem_cons_of_mem _ h) wq292 wq293 wq294 wq43 wq295) rfl rfl rfl (by decide +kernel) ⟨Nat.le_of_ble_eq_true rfl, Nat.le_of_ble_eq_true rfl⟩) (hs_preV (r := (RX7, TX7, 11)) hP hK h30 (by decide) rfl) rfl rfl hl.1 rfl (lv_room (Nat.le_of_ble_eq_true rfl)) dX2_wrongHandler_126 ⟨(Nat.le_of_ble_eq_true rfl), (Nat.le_of_ble_eq_true rfl)⟩) hS (fun H locs hP hS => ?_)
          refine lv_aload_n hx hb dX2_wrongHandler_129 rfl (lv_at hl 3 rfl) ?_
          refine lv_iload_n hx hb dX2_wrongHandler_130 rfl (lv_at hl 4 rfl) ?_
          refine lv_iconst (v := 1) hx hb dX2_wrongHandler_131 (by decide) ?_
          refine lv_iload hx hb dX2_wrongHandler_132 (lv_at hl 7 rfl) ?_
          obtain ⟨h34, hf⟩ := hs_ck hf
          obtain ⟨g35, h37, hf⟩ := hs_bv_some hf
          refine hs_callv (va_runV (As := [.int v3, .int (1 : Int32), .int v6]) (rest := []) ⟨hx, hb, hml, hown, hts⟩ (ctX7_setHandlerNumber l B D E v2 v3 (1 : Int32) v6 g31 _ h37) (cwV 3 hts (hs_gV (fun _ h => List.mem_cons_of_mem _ h) wq292 wq293 wq294 wq43 wq295) rfl rfl rfl (by decide +kernel) ⟨Nat.le_of_ble_eq_true rfl, Nat.le_of_ble_eq_true rfl⟩) (hs_preV (r := (RX7, TX7, 11)) hP hK h34 (by decide) rfl) rfl rfl hl.1 rfl (lv_room (Nat.le_of_ble_eq_true rfl)) dX2_wrongHandler_134 ⟨(Nat.le_of_ble_eq_true rfl), (Nat.le_of_ble_eq_true rfl)⟩) hS (fun H locs hP hS => ?_)
          refine lv_aload_n hx hb dX2_wrongHandler_137 rfl (lv_at hl 3 rfl) ?_
          refine lv_iload_n hx hb dX2_wrongHandler_138 rfl (lv_at hl 4 rfl) ?_
          refine lv_iconst (v := 2) hx hb dX2_wrongHandler_139 (by decide) ?_
          refine lv_iload hx hb dX2_wrongHandler_140 (lv_at hl 8 rfl) ?_
          obtain ⟨h38, hf⟩ := hs_ck hf
          obtain ⟨g39, h41, hf⟩ := hs_bv_some hf
          refine hs_callv (va_runV (As := [.int v3, .int (2 : Int32), .int v7]) (rest := []) ⟨hx, hb, hml, hown, hts⟩ (ctX7_setHandlerNumber l B D E v2 v3 (2 : Int32) v7 g35 _ h41) (cwV 3 hts (hs_gV (fun _ h => List.mem_cons_of_mem _ h) wq292 wq293 wq294 wq43 wq295) rfl rfl rfl (by decide +kernel) ⟨Nat.le_of_ble_eq_true rfl, Nat.le_of_ble_eq_true rfl⟩) (hs_preV (r := (RX7, TX7, 11)) hP hK h38 (by decide) rfl) rfl rfl hl.1 rfl (lv_room (Nat.le_of_ble_eq_true rfl)) dX2_wrongHandler_142 ⟨(Nat.le_of_ble_eq_true rfl), (Nat.le_of_ble_eq_true rfl)⟩) hS (fun H locs hP hS => ?_)
          refine lv_aload_n hx hb dX2_wrongHandler_145 rfl (lv_at hl 3 rfl) ?_
          refine lv_iload_n hx hb dX2_wrongHandler_146 rfl (lv_at hl 4 rfl) ?_
          refine lv_iconst (v := 3) hx hb dX2_wrongHandler_147 (by decide) ?_
          refine lv_iload hx hb dX2_wrongHandler_148 (lv_at hl 9 rfl) ?_
          obtain ⟨h42, hf⟩ := hs_ck hf
          obtain ⟨g43, h45, hf⟩ := hs_bv_some hf
          refine hs_callv (va_runV (As := [.int v3, .int (3 : Int32), .int v8]) (rest := []) ⟨hx, hb, hml, hown, hts⟩ (ctX7_setHandlerNumber l B D E v2 v3 (3 : Int32) v8 g39 _ h45) (cwV 3 hts (hs_gV (fun _ h => List.mem_cons_of_mem _ h) wq292 wq293 wq294 wq43 wq295) rfl rfl rfl (by decide +kernel) ⟨Nat.le_of_ble_eq_true rfl, Nat.le_of_ble_eq_true rfl⟩) (hs_preV (r := (RX7, TX7, 11)) hP hK h42 (by decide) rfl) rfl rfl hl.1 rfl (lv_room (Nat.le_of_ble_eq_true rfl)) dX2_wrongHandler_150 ⟨(Nat.le_of_ble_eq_true rfl), (Nat.le_of_ble_eq_true rfl)⟩) hS (fun H locs hP hS => ?_)
          refine lv_iinc (v := (v3 + (1 : Int32))) (lv' := [(3, .int (v3 + (1 : Int32))), (9, .int s0), (0, .ref (B + v0)), (1, .ref (B + v1)), (2, .ref (B + v2)), (4, .int v4), (5, .int v5), (6, .int v6), (7, .int v7), (8, .int v8)]) hx hb dX2_wrongHandler_153 hl (k := 4) rfl (by rfl) (by decide) rfl (fun ls hl => ?_)
          refine lv_goto (tgt := 2) hx hb dX2_wrongHandler_156 (by decide) ?_
          exact hrec _ _ _ _ _ hf hP hS (lv_sub hl [2, 3, 4, 0] rfl)
        · replace hf := hs_f hf hc
          obtain rfl := Option.some.inj hf
          exact hex1 rfl _ _ _ hP hS (lv_sub hl [5] rfl)

set_option maxHeartbeats 4000000 in
set_option maxRecDepth 100000 in
theorem wX2_wrongHandler_j86 {p : Program} {l : Launch} {e : Env} {s : State} {m : MethodId} {args : Array Value} {below : List Frame} {meth : Method} {c : Code} {B : Nat} {D : va_G} {E : Nat → ClassId} (hX : hs_cx cX2_wrongHandler (some .int) 10 RX2 wcX2_wrongHandler p s m args meth c D E) {Q : State → Prop} {o : Nat × Int32 × hs_S} {rec : Int32 → hs_S → Option (Nat × Int32 × hs_S)} {v0 : Nat} {v1 : Nat} {v2 : Nat} {v3 : Int32} {v4 : Int32} {v5 : Int32} {v6 : Int32} {v7 : Int32} {v8 : Int32}  (hrec : ∀ (y0 : Int32) (g : hs_S) (H : Heap) (locs : List Loc) (ls : Array Slot), rec y0 g = some o → hs_P B D E g H → hs_Sx B s.heap H locs → lv_has ls 10 [(0, .ref (B + v0)), (1, .ref (B + v1)), (2, .ref (B + v2)), (3, .int y0)] → W p l e rmX2_wrongHandler s m args below meth c H locs 0 0 Q (F0 m 2 ls [])) (hex0 : o.1 = 0 → ∀ (H : Heap) (locs : List Loc) (ls : Array Slot), hs_P B D E (o.2.2) H → hs_Sx B s.heap H locs → lv_has ls 10 [] → W p l e rmX2_wrongHandler s m args below meth c H locs 0 0 Q (F0 m 159 ls [])) (hex1 : o.1 = 1 → ∀ (H : Heap) (locs : List Loc) (ls : Array Slot), hs_P B D E (o.2.2) H → hs_Sx B s.heap H locs → lv_has ls 10 [(4, .int (o.2.1))] → W p l e rmX2_wrongHandler s m args below meth c H locs 0 0 Q (F0 m 118 ls [])) {g : hs_S} {H : Heap} {locs : List Loc} {ls : Array Slot} (hf : jX2_wrongHandler_86 rec v0 v1 v2 v3 v4 v5 v6 v7 v8 g = some o) (hP : hs_P B D E g H) (hS : hs_Sx B s.heap H locs) (hl : lv_has ls 10 [(0, .ref (B + v0)), (1, .ref (B + v1)), (2, .ref (B + v2)), (3, .int v3), (4, .int v4), (5, .int v5), (6, .int v6), (7, .int v7), (8, .int v8)]) : W p l e rmX2_wrongHandler s m args below meth c H locs 0 0 Q (F0 m 86 ls []) := by
  obtain ⟨hx, hb, hr, hml, hown, hts, hlocks, hK⟩ := id hX
  unfold jX2_wrongHandler_86 at hf
  refine lv_iconst (v := 0) hx hb dX2_wrongHandler_86 (by decide) ?_
  exact wX2_wrongHandler_j87 hX hrec hex0 hex1 hf hP hS (lv_sub hl [0, 1, 2, 3, 4, 5, 6, 7, 8] rfl)

set_option maxHeartbeats 4000000 in
set_option maxRecDepth 100000 in
theorem wX2_wrongHandler_j82 {p : Program} {l : Launch} {e : Env} {s : State} {m : MethodId} {args : Array Value} {below : List Frame} {meth : Method} {c : Code} {B : Nat} {D : va_G} {E : Nat → ClassId} (hX : hs_cx cX2_wrongHandler (some .int) 10 RX2 wcX2_wrongHandler p s m args meth c D E) {Q : State → Prop} {o : Nat × Int32 × hs_S} {rec : Int32 → hs_S → Option (Nat × Int32 × hs_S)} {v0 : Nat} {v1 : Nat} {v2 : Nat} {v3 : Int32} {v4 : Int32} {v5 : Int32} {v6 : Int32} {v7 : Int32} {v8 : Int32}  (hrec : ∀ (y0 : Int32) (g : hs_S) (H : Heap) (locs : List Loc) (ls : Array Slot), rec y0 g = some o → hs_P B D E g H → hs_Sx B s.heap H locs → lv_has ls 10 [(0, .ref (B + v0)), (1, .ref (B + v1)), (2, .ref (B + v2)), (3, .int y0)] → W p l e rmX2_wrongHandler s m args below meth c H locs 0 0 Q (F0 m 2 ls [])) (hex0 : o.1 = 0 → ∀ (H : Heap) (locs : List Loc) (ls : Array Slot), hs_P B D E (o.2.2) H → hs_Sx B s.heap H locs → lv_has ls 10 [] → W p l e rmX2_wrongHandler s m args below meth c H locs 0 0 Q (F0 m 159 ls [])) (hex1 : o.1 = 1 → ∀ (H : Heap) (locs : List Loc) (ls : Array Slot), hs_P B D E (o.2.2) H → hs_Sx B s.heap H locs → lv_has ls 10 [(4, .int (o.2.1))] → W p l e rmX2_wrongHandler s m args below meth c H locs 0 0 Q (F0 m 118 ls [])) {g : hs_S} {H : Heap} {locs : List Loc} {ls : Array Slot} (hf : jX2_wrongHandler_82 rec v0 v1 v2 v3 v4 v5 v6 v7 v8 g = some o) (hP : hs_P B D E g H) (hS : hs_Sx B s.heap H locs) (hl : lv_has ls 10 [(0, .ref (B + v0)), (1, .ref (B + v1)), (2, .ref (B + v2)), (3, .int v3), (4, .int v4), (5, .int v5), (6, .int v6), (7, .int v7), (8, .int v8)]) : W p l e rmX2_wrongHandler s m args below meth c H locs 0 0 Q (F0 m 82 ls []) := by
  obtain ⟨hx, hb, hr, hml, hown, hts, hlocks, hK⟩ := id hX
  unfold jX2_wrongHandler_82 at hf
  refine lv_iconst (v := 1) hx hb dX2_wrongHandler_82 (by decide) ?_
  refine lv_goto (tgt := 87) hx hb dX2_wrongHandler_83 (by decide) ?_
  exact wX2_wrongHandler_j87 hX hrec hex0 hex1 hf hP hS (lv_sub hl [0, 1, 2, 3, 4, 5, 6, 7, 8] rfl)

set_option maxHeartbeats 4000000 in
set_option maxRecDepth 100000 in
theorem wX2_wrongHandler_2 {p : Program} {l : Launch} {e : Env} {s : State} {m : MethodId} {args : Array Value} {below : List Frame} {meth : Method} {c : Code} {B : Nat} {D : va_G} {E : Nat → ClassId} (hX : hs_cx cX2_wrongHandler (some .int) 10 RX2 wcX2_wrongHandler p s m args meth c D E) {Q : State → Prop} {o : Nat × Int32 × hs_S} {v0 : Nat} {v1 : Nat} {v2 : Nat} (hex0 : o.1 = 0 → ∀ (H : Heap) (locs : List Loc) (ls : Array Slot), hs_P B D E (o.2.2) H → hs_Sx B s.heap H locs → lv_has ls 10 [] → W p l e rmX2_wrongHandler s m args below meth c H locs 0 0 Q (F0 m 159 ls [])) (hex1 : o.1 = 1 → ∀ (H : Heap) (locs : List Loc) (ls : Array Slot), hs_P B D E (o.2.2) H → hs_Sx B s.heap H locs → lv_has ls 10 [(4, .int (o.2.1))] → W p l e rmX2_wrongHandler s m args below meth c H locs 0 0 Q (F0 m 118 ls [])) : ∀ (n : Nat) (v3 : Int32) (g : hs_S), lX2_wrongHandler_2 n v0 v1 v2 v3 g = some o → ∀ (H : Heap) (locs : List Loc) (ls : Array Slot), hs_P B D E g H → hs_Sx B s.heap H locs → lv_has ls 10 [(0, .ref (B + v0)), (1, .ref (B + v1)), (2, .ref (B + v2)), (3, .int v3)] → W p l e rmX2_wrongHandler s m args below meth c H locs 0 0 Q (F0 m 2 ls []) := by
  obtain ⟨hx, hb, hr, hml, hown, hts, hlocks, hK⟩ := id hX
  intro n
  induction n with
  | zero =>
    intro v3 g hf
    cases hf
  | succ n ih =>
    intro v3 g hf H locs ls hP hS hl
    replace hf := (lX2_wrongHandler_2_s n v0 v1 v2 v3 g).symm.trans hf
    refine lv_iload_n hx hb dX2_wrongHandler_2 rfl (lv_at hl 3 rfl) ?_
    refine lv_aload_n hx hb dX2_wrongHandler_3 rfl (lv_at hl 2 rfl) ?_
    obtain ⟨h1, hf⟩ := hs_ck hf
    refine hs_geti (C := RX7) (T := TX7) (N := 11) hx hb hts (fun w h => List.mem_cons_of_mem _ (inlX7 w h)) hown hK.1 hP h1 (by decide) rfl 6 (by decide) (hts _ (List.mem_cons_of_mem _ wq230)) (fun _ h => h) rfl dX2_wrongHandler_4 ?_
    refine lv_icmp_ge (tgt := 159) hx hb dX2_wrongHandler_7 (by decide) (fun hc => ?_) (fun hc => ?_)
    · replace hf := hs_t hf hc
      obtain rfl := Option.some.inj hf
      exact hex0 rfl _ _ _ hP hS (lv_sub hl [] rfl)
    · replace hf := hs_f hf hc
      refine lv_aload_n hx hb dX2_wrongHandler_10 rfl (lv_at hl 0 rfl) ?_
      refine lv_aload_n hx hb dX2_wrongHandler_11 rfl (lv_at hl 2 rfl) ?_
      refine lv_iload_n hx hb dX2_wrongHandler_12 rfl (lv_at hl 3 rfl) ?_
      obtain ⟨h2, hf⟩ := hs_ck hf
      obtain ⟨r4, g3, h5, hf⟩ := hs_bd_some hf
      refine hs_calli (va_runV (As := [.ref (B + v2), .int v3]) (rest := []) ⟨hx, hb, hml, hown, hts⟩ (ctX2_handlerPlace l B D E v0 v2 v3 g _ h5) (cwV 2 hts (hs_gV (fun _ h => List.mem_cons_of_mem _ h) wq235 wq236 wq237 wq26 wq238) rfl rfl rfl (by decide +kernel) ⟨Nat.le_of_ble_eq_true rfl, Nat.le_of_ble_eq_true rfl⟩) (hs_preV (r := (RX2, TX2, 1)) hP hK h2 (by decide) rfl) rfl rfl hl.1 rfl (lv_room (Nat.le_of_ble_eq_true rfl)) dX2_wrongHandler_13 ⟨(Nat.le_of_ble_eq_true rfl), (Nat.le_of_ble_eq_true rfl)⟩) hS (fun H locs hP hS => ?_)
      refine lv_istore (lv' := [(4, .int r4), (0, .ref (B + v0)), (1, .ref (B + v1)), (2, .ref (B + v2)), (3, .int v3)]) hx hb dX2_wrongHandler_16 hl (by decide) rfl (fun ls hl => ?_)
      refine lv_aload_n hx hb dX2_wrongHandler_18 rfl (lv_at hl 2 rfl) ?_
      refine lv_iload hx hb dX2_wrongHandler_19 (lv_at hl 0 rfl) ?_
      obtain ⟨h6, hf⟩ := hs_ck hf
      obtain ⟨r8, g7, h9, hf⟩ := hs_bd_some hf
      refine hs_calli (va_runV (As := [.int r4]) (rest := []) ⟨hx, hb, hml, hown, hts⟩ (ctX0_pairAt l B D E v1 r4 g3 _ h9) (cwV 1 hts (hs_gV (fun _ h => List.mem_cons_of_mem _ h) wq221 wq222 wq223 wq15 wq224) rfl rfl rfl (by decide +kernel) ⟨Nat.le_of_ble_eq_true rfl, Nat.le_of_ble_eq_true rfl⟩) (hs_preV (r := (RX0, TX0, 5)) hP hK h6 (by decide) rfl) rfl rfl hl.1 rfl (lv_room (Nat.le_of_ble_eq_true rfl)) dX2_wrongHandler_21 ⟨(Nat.le_of_ble_eq_true rfl), (Nat.le_of_ble_eq_true rfl)⟩) hS (fun H locs hP hS => ?_)
      refine lv_istore (lv' := [(5, .int r8), (4, .int r4), (0, .ref (B + v0)), (1, .ref (B + v1)), (2, .ref (B + v2)), (3, .int v3)]) hx hb dX2_wrongHandler_24 hl (by decide) rfl (fun ls hl => ?_)
      refine lv_aload_n hx hb dX2_wrongHandler_26 rfl (lv_at hl 3 rfl) ?_
      refine lv_iload hx hb dX2_wrongHandler_27 (lv_at hl 1 rfl) ?_
      refine lv_iconst (v := 2) hx hb dX2_wrongHandler_29 (by decide) ?_
      refine lv_iadd hx hb dX2_wrongHandler_30 ?_
      obtain ⟨h10, hf⟩ := hs_ck hf
      obtain ⟨r12, g11, h13, hf⟩ := hs_bd_some hf
      refine hs_calli (va_runV (As := [.int (r4 + (2 : Int32))]) (rest := []) ⟨hx, hb, hml, hown, hts⟩ (ctX0_pairAt l B D E v1 (r4 + (2 : Int32)) g7 _ h13) (cwV 1 hts (hs_gV (fun _ h => List.mem_cons_of_mem _ h) wq221 wq222 wq223 wq15 wq224) rfl rfl rfl (by decide +kernel) ⟨Nat.le_of_ble_eq_true rfl, Nat.le_of_ble_eq_true rfl⟩) (hs_preV (r := (RX0, TX0, 5)) hP hK h10 (by decide) rfl) rfl rfl hl.1 rfl (lv_room (Nat.le_of_ble_eq_true rfl)) dX2_wrongHandler_31 ⟨(Nat.le_of_ble_eq_true rfl), (Nat.le_of_ble_eq_true rfl)⟩) hS (fun H locs hP hS => ?_)
      refine lv_istore (lv' := [(6, .int r12), (5, .int r8), (4, .int r4), (0, .ref (B + v0)), (1, .ref (B + v1)), (2, .ref (B + v2)), (3, .int v3)]) hx hb dX2_wrongHandler_34 hl (by decide) rfl (fun ls hl => ?_)
      refine lv_aload_n hx hb dX2_wrongHandler_36 rfl (lv_at hl 4 rfl) ?_
      refine lv_iload hx hb dX2_wrongHandler_37 (lv_at hl 2 rfl) ?_
      refine lv_iconst (v := 4) hx hb dX2_wrongHandler_39 (by decide) ?_
      refine lv_iadd hx hb dX2_wrongHandler_40 ?_
      obtain ⟨h14, hf⟩ := hs_ck hf
      obtain ⟨r16, g15, h17, hf⟩ := hs_bd_some hf
      refine hs_calli (va_runV (As := [.int (r4 + (4 : Int32))]) (rest := []) ⟨hx, hb, hml, hown, hts⟩ (ctX0_pairAt l B D E v1 (r4 + (4 : Int32)) g11 _ h17) (cwV 1 hts (hs_gV (fun _ h => List.mem_cons_of_mem _ h) wq221 wq222 wq223 wq15 wq224) rfl rfl rfl (by decide +kernel) ⟨Nat.le_of_ble_eq_true rfl, Nat.le_of_ble_eq_true rfl⟩) (hs_preV (r := (RX0, TX0, 5)) hP hK h14 (by decide) rfl) rfl rfl hl.1 rfl (lv_room (Nat.le_of_ble_eq_true rfl)) dX2_wrongHandler_41 ⟨(Nat.le_of_ble_eq_true rfl), (Nat.le_of_ble_eq_true rfl)⟩) hS (fun H locs hP hS => ?_)
      refine lv_istore (lv' := [(7, .int r16), (6, .int r12), (5, .int r8), (4, .int r4), (0, .ref (B + v0)), (1, .ref (B + v1)), (2, .ref (B + v2)), (3, .int v3)]) hx hb dX2_wrongHandler_44 hl (by decide) rfl (fun ls hl => ?_)
      refine lv_aload_n hx hb dX2_wrongHandler_46 rfl (lv_at hl 5 rfl) ?_
      refine lv_iload hx hb dX2_wrongHandler_47 (lv_at hl 3 rfl) ?_
      refine lv_bipush (v := 6) hx hb dX2_wrongHandler_49 (by decide) ?_
      refine lv_iadd hx hb dX2_wrongHandler_51 ?_
      obtain ⟨h18, hf⟩ := hs_ck hf
      obtain ⟨r20, g19, h21, hf⟩ := hs_bd_some hf
      refine hs_calli (va_runV (As := [.int (r4 + (6 : Int32))]) (rest := []) ⟨hx, hb, hml, hown, hts⟩ (ctX0_valueAt l B D E v1 (r4 + (6 : Int32)) g15 _ h21) (cwV 1 hts (hs_gV (fun _ h => List.mem_cons_of_mem _ h) wq188 wq189 wq190 wq15 wq191) rfl rfl rfl (by decide +kernel) ⟨Nat.le_of_ble_eq_true rfl, Nat.le_of_ble_eq_true rfl⟩) (hs_preV (r := (RX0, TX0, 5)) hP hK h18 (by decide) rfl) rfl rfl hl.1 rfl (lv_room (Nat.le_of_ble_eq_true rfl)) dX2_wrongHandler_52 ⟨(Nat.le_of_ble_eq_true rfl), (Nat.le_of_ble_eq_true rfl)⟩) hS (fun H locs hP hS => ?_)
      refine lv_istore (lv' := [(8, .int r20), (7, .int r16), (6, .int r12), (5, .int r8), (4, .int r4), (0, .ref (B + v0)), (1, .ref (B + v1)), (2, .ref (B + v2)), (3, .int v3)]) hx hb dX2_wrongHandler_55 hl (by decide) rfl (fun ls hl => ?_)
      refine lv_iload hx hb dX2_wrongHandler_57 (lv_at hl 2 rfl) ?_
      refine lv_iload hx hb dX2_wrongHandler_59 (lv_at hl 3 rfl) ?_
      refine lv_icmp_le (tgt := 86) hx hb dX2_wrongHandler_61 (by decide) (fun hc => ?_) (fun hc => ?_)
      · replace hf := hs_t hf hc
        exact wX2_wrongHandler_j86 hX (fun z0 g H locs ls hf hP hS hl => ih z0 g hf H locs ls hP hS hl) hex0 hex1 hf hP hS (lv_sub hl [5, 6, 7, 8, 4, 3, 2, 1, 0] rfl)
      · replace hf := hs_f hf hc
        refine lv_aload_n hx hb dX2_wrongHandler_64 rfl (lv_at hl 7 rfl) ?_
        refine lv_iload hx hb dX2_wrongHandler_65 (lv_at hl 2 rfl) ?_
        obtain ⟨h46, hf⟩ := hs_ck hf
        obtain ⟨r48, g47, h49, hf⟩ := hs_bd_some hf
        refine hs_calli (va_runV (As := [.int r12]) (rest := []) ⟨hx, hb, hml, hown, hts⟩ (ctX7_begins l B D E v2 r12 g19 _ h49) (cwV 1 hts (hs_gV (fun _ h => List.mem_cons_of_mem _ h) wq288 wq289 wq290 wq43 wq291) rfl rfl rfl (by decide +kernel) ⟨Nat.le_of_ble_eq_true rfl, Nat.le_of_ble_eq_true rfl⟩) (hs_preV (r := (RX7, TX7, 11)) hP hK h46 (by decide) rfl) rfl rfl hl.1 rfl (lv_room (Nat.le_of_ble_eq_true rfl)) dX2_wrongHandler_67 ⟨(Nat.le_of_ble_eq_true rfl), (Nat.le_of_ble_eq_true rfl)⟩) hS (fun H locs hP hS => ?_)
        refine lv_if_ne (tgt := 82) hx hb dX2_wrongHandler_70 (by decide) (fun hc => ?_) (fun hc => ?_)
        · replace hf := hs_f hf hc
          exact wX2_wrongHandler_j82 hX (fun z0 g H locs ls hf hP hS hl => ih z0 g hf H locs ls hP hS hl) hex0 hex1 hf hP hS (lv_sub hl [5, 6, 7, 8, 4, 3, 2, 1, 0] rfl)
        · replace hf := hs_t hf hc
          refine lv_iload hx hb dX2_wrongHandler_73 (lv_at hl 2 rfl) ?_
          refine lv_aload_n hx hb dX2_wrongHandler_75 rfl (lv_at hl 7 rfl) ?_
          obtain ⟨h50, hf⟩ := hs_ck hf
          refine hs_geti (C := RX7) (T := TX7) (N := 11) hx hb hts (fun w h => List.mem_cons_of_mem _ (inlX7 w h)) hown hK.1 hP h50 (by decide) rfl 3 (by decide) (hts _ (List.mem_cons_of_mem _ wq219)) (fun _ h => h) rfl dX2_wrongHandler_76 ?_
          refine lv_icmp_ne (tgt := 86) hx hb dX2_wrongHandler_79 (by decide) (fun hc => ?_) (fun hc => ?_)
          · replace hf := hs_f hf hc
            exact wX2_wrongHandler_j86 hX (fun z0 g H locs ls hf hP hS hl => ih z0 g hf H locs ls hP hS hl) hex0 hex1 hf hP hS (lv_sub hl [5, 6, 7, 8, 4, 3, 2, 1, 0] rfl)
          · replace hf := hs_t hf hc
            exact wX2_wrongHandler_j82 hX (fun z0 g H locs ls hf hP hS hl => ih z0 g hf H locs ls hP hS hl) hex0 hex1 hf hP hS (lv_sub hl [5, 6, 7, 8, 4, 3, 2, 1, 0] rfl)

set_option maxHeartbeats 4000000 in
set_option maxRecDepth 100000 in
theorem ctX2_wrongHandler (l : Launch) (B : Nat) (D : va_G) (E : Nat → ClassId) (v0 : Nat) (v1 : Nat) (v2 : Nat) (g : hs_S) (o : Int32 × hs_S) (hf : fX2_wrongHandler v0 v1 v2 g = some o) : Met l yX2_wrongHandler wcX2_wrongHandler rmX2_wrongHandler (hs_Pc B D E g [.ref (B + v0), .ref (B + v1), .ref (B + v2)]) (hs_Qi B D E o) (0) (0) (hs_F B) := by
  refine Met.ofW (cc := cX2_wrongHandler) (maxL := 10) (ret := (some .int)) (by decide) rfl ?_
  intro p e s m args below meth c s₁ Bd hml hv
  obtain ⟨rfl, hP, hK⟩ := hv
  have hx := Bd.exec
  have hb := Bd.bytes
  have hr := Bd.returns
  have hts := atoms_spec (ws := wcX2_wrongHandler) Bd.pre
  have hown : s.vm.findClass RX2 = some m.cls := findClass_of_methodNamed Bd.named
  have hlocks := Bd.notSynchronized
  have hS : hs_Sx B s.heap s.heap [] := va_S.rf
  have hX : hs_cx cX2_wrongHandler (some .int) 10 RX2 wcX2_wrongHandler p s m (List.toArray [.ref (B + v0), .ref (B + v1), .ref (B + v2)]) meth c D E := ⟨hx, hb, hr, hml, hown, hts, hlocks, hK⟩
  have hl := lv_entry ([.ref (B + v0), .ref (B + v1), .ref (B + v2)]) (n := 10) (Nat.le_of_ble_eq_true rfl)
  rw [lg_entry_eq]
  generalize (lg_sl ([.ref (B + v0), .ref (B + v1), .ref (B + v2)]) ++ List.replicate (10 - (lg_sl ([.ref (B + v0), .ref (B + v1), .ref (B + v2)])).length) Slot.unset).toArray = ls at hl ⊢
  have hl : lv_has ls 10 [(0, .ref (B + v0)), (1, .ref (B + v1)), (2, .ref (B + v2))] := hl
  have hP : hs_P B D E g s.heap := hP
  unfold fX2_wrongHandler at hf
  refine lv_iconst (v := 0) hx hb dX2_wrongHandler_0 (by decide) ?_
  refine lv_istore_n (lv' := [(3, .int (0 : Int32)), (0, .ref (B + v0)), (1, .ref (B + v1)), (2, .ref (B + v2))]) hx hb dX2_wrongHandler_1 rfl hl (by decide) rfl (fun ls hl => ?_)
  obtain ⟨k52, x51, g53, h54, hf⟩ := hs_b3_some hf
  refine wX2_wrongHandler_2 hX (fun hlab H locs ls hP hS hl => ?_) (fun hlab H locs ls hP hS hl => ?_) hs_N _ _ h54 _ _ _ hP hS (lv_sub hl [1, 2, 3, 0] rfl)
  · replace hlab : k52 = 0 := hlab
    replace hf := hs_t hf hlab
    refine lv_iconst (v := -1) hx hb dX2_wrongHandler_159 (by decide) ?_
    exact hs_iret hx hb hr hlocks rfl hK hP hS hf dX2_wrongHandler_160
  · replace hlab : k52 = 1 := hlab
    replace hf := hs_f hf (by rw [hlab]; decide)
    refine lv_iload hx hb dX2_wrongHandler_118 (lv_at hl 0 rfl) ?_
    exact hs_iret hx hb hr hlocks rfl hK hP hS hf dX2_wrongHandler_120

theorem dX4_isJump_0 : decode cX4_isJump 0 = .ok (.iload_n 0, 1) := by decide +kernel
theorem dX4_isJump_1 : decode cX4_isJump 1 = .ok (.invokestatic 13, 3) := by decide +kernel
theorem dX4_isJump_4 : decode cX4_isJump 4 = .ok (.ifCond .ne 17, 3) := by decide +kernel
theorem dX4_isJump_7 : decode cX4_isJump 7 = .ok (.iload_n 0, 1) := by decide +kernel
theorem dX4_isJump_8 : decode cX4_isJump 8 = .ok (.sipush 167, 3) := by decide +kernel
theorem dX4_isJump_11 : decode cX4_isJump 11 = .ok (.if_icmp .eq 10, 3) := by decide +kernel
theorem dX4_isJump_14 : decode cX4_isJump 14 = .ok (.iload_n 0, 1) := by decide +kernel
theorem dX4_isJump_15 : decode cX4_isJump 15 = .ok (.sipush 168, 3) := by decide +kernel
theorem dX4_isJump_18 : decode cX4_isJump 18 = .ok (.if_icmp .ne 7, 3) := by decide +kernel
theorem dX4_isJump_21 : decode cX4_isJump 21 = .ok (.iconst 1, 1) := by decide +kernel
theorem dX4_isJump_22 : decode cX4_isJump 22 = .ok (.goto 4, 3) := by decide +kernel
theorem dX4_isJump_25 : decode cX4_isJump 25 = .ok (.iconst 0, 1) := by decide +kernel
theorem dX4_isJump_26 : decode cX4_isJump 26 = .ok (.ireturn, 1) := by decide +kernel
abbrev wcX4_isJump : List Cond := .code yX4_isJump cX4_isJump 1 (some .boolean) :: wsL_law
def jX4_isJump_21  (g : hs_S) : Option (Int32 × hs_S) :=
  some ((1 : Int32), g)
def fX4_isJump (v0 : Int32) (g : hs_S) : Option (Int32 × hs_S) :=
  hs_bd (fX4_isBranch v0 g) fun r2 g1 =>
  if r2 = 0 then (
    if v0 = (167 : Int32) then (
      jX4_isJump_21 g1
    ) else (
      if v0 = (168 : Int32) then (
        jX4_isJump_21 g1
      ) else (
        some ((0 : Int32), g1)
      )
    )
  ) else (
    jX4_isJump_21 g1
  )
abbrev rmX4_isJump : Room := { frames := 1, cells := 0, slots := 0, locals := 20 }
set_option maxHeartbeats 4000000 in
set_option maxRecDepth 100000 in
theorem wX4_isJump_j21 {p : Program} {l : Launch} {e : Env} {s : State} {m : MethodId} {args : Array Value} {below : List Frame} {meth : Method} {c : Code} {B : Nat} {D : va_G} {E : Nat → ClassId} (hX : hs_cx cX4_isJump (some .boolean) 1 RX4 wcX4_isJump p s m args meth c D E) {o : Int32 × hs_S}     {g : hs_S} {H : Heap} {locs : List Loc} {ls : Array Slot} (hf : jX4_isJump_21  g = some o) (hP : hs_P B D E g H) (hS : hs_Sx B s.heap H locs) (hl : lv_has ls 1 []) : W p l e rmX4_isJump s m args below meth c H locs 0 0 (MQ below (hs_Qi B D E o) args s 0 0 (hs_F B)) (F0 m 21 ls []) := by
  obtain ⟨hx, hb, hr, hml, hown, hts, hlocks, hK⟩ := id hX
  unfold jX4_isJump_21 at hf
  refine lv_iconst (v := 1) hx hb dX4_isJump_21 (by decide) ?_
  refine lv_goto (tgt := 26) hx hb dX4_isJump_22 (by decide) ?_
  exact hs_iret hx hb hr hlocks (hs_01_nar (rfl)) hK hP hS hf dX4_isJump_26

set_option maxHeartbeats 4000000 in
set_option maxRecDepth 100000 in
theorem ctX4_isJump (l : Launch) (B : Nat) (D : va_G) (E : Nat → ClassId) (v0 : Int32) (g : hs_S) (o : Int32 × hs_S) (hf : fX4_isJump v0 g = some o) : Met l yX4_isJump wcX4_isJump rmX4_isJump (hs_Pc B D E g [.int v0]) (hs_Qi B D E o) (0) (0) (hs_F B) := by
  refine Met.ofW (cc := cX4_isJump) (maxL := 1) (ret := (some .boolean)) (by decide) rfl ?_
  intro p e s m args below meth c s₁ Bd hml hv
  obtain ⟨rfl, hP, hK⟩ := hv
  have hx := Bd.exec
  have hb := Bd.bytes
  have hr := Bd.returns
  have hts := atoms_spec (ws := wcX4_isJump) Bd.pre
  have hown : s.vm.findClass RX4 = some m.cls := findClass_of_methodNamed Bd.named
  have hlocks := Bd.notSynchronized
  have hS : hs_Sx B s.heap s.heap [] := va_S.rf
  have hX : hs_cx cX4_isJump (some .boolean) 1 RX4 wcX4_isJump p s m (List.toArray [.int v0]) meth c D E := ⟨hx, hb, hr, hml, hown, hts, hlocks, hK⟩
  have hl := lv_entry ([.int v0]) (n := 1) (Nat.le_of_ble_eq_true rfl)
  rw [lg_entry_eq]
  generalize (lg_sl ([.int v0]) ++ List.replicate (1 - (lg_sl ([.int v0])).length) Slot.unset).toArray = ls at hl ⊢
  have hl : lv_has ls 1 [(0, .int v0)] := hl
  have hP : hs_P B D E g s.heap := hP
  unfold fX4_isJump at hf
  refine lv_iload_n hx hb dX4_isJump_0 rfl (lv_at hl 0 rfl) ?_
  obtain ⟨r2, g1, h3, hf⟩ := hs_bd_some hf
  refine hs_calli (va_runS (As := [.int v0]) (rest := []) ⟨hx, hb, hml, hown, hts⟩ (ctX4_isBranch l B D E v0 g _ h3) (va_cwS 1 hts (hs_gS (fun _ h => List.mem_cons_of_mem _ h) wq263 wq264 wq258 wq265) rfl rfl rfl (by decide +kernel) ⟨Nat.le_of_ble_eq_true rfl, Nat.le_of_ble_eq_true rfl⟩) (hs_pre hP hK) rfl rfl hl.1 rfl (lv_room (Nat.le_of_ble_eq_true rfl)) dX4_isJump_1 ⟨(Nat.le_of_ble_eq_true rfl), (Nat.le_of_ble_eq_true rfl)⟩) hS (fun H locs hP hS => ?_)
  refine lv_if_ne (tgt := 21) hx hb dX4_isJump_4 (by decide) (fun hc => ?_) (fun hc => ?_)
  · replace hf := hs_f hf hc
    exact wX4_isJump_j21 hX hf hP hS (lv_sub hl [] rfl)
  · replace hf := hs_t hf hc
    refine lv_iload_n hx hb dX4_isJump_7 rfl (lv_at hl 0 rfl) ?_
    refine lv_sipush (v := 167) hx hb dX4_isJump_8 (by decide) ?_
    refine lv_icmp_eq (tgt := 21) hx hb dX4_isJump_11 (by decide) (fun hc => ?_) (fun hc => ?_)
    · replace hf := hs_t hf hc
      exact wX4_isJump_j21 hX hf hP hS (lv_sub hl [] rfl)
    · replace hf := hs_f hf hc
      refine lv_iload_n hx hb dX4_isJump_14 rfl (lv_at hl 0 rfl) ?_
      refine lv_sipush (v := 168) hx hb dX4_isJump_15 (by decide) ?_
      refine lv_icmp_ne (tgt := 25) hx hb dX4_isJump_18 (by decide) (fun hc => ?_) (fun hc => ?_)
      · replace hf := hs_f hf hc
        refine lv_iconst (v := 0) hx hb dX4_isJump_25 (by decide) ?_
        exact hs_iret hx hb hr hlocks (hs_01_nar (rfl)) hK hP hS hf dX4_isJump_26
      · replace hf := hs_t hf hc
        exact wX4_isJump_j21 hX hf hP hS (lv_sub hl [] rfl)

theorem dX7_jumpsAt_0 : decode cX7_jumpsAt 0 = .ok (.aload_n 0, 1) := by decide +kernel
theorem dX7_jumpsAt_1 : decode cX7_jumpsAt 1 = .ok (.iload_n 1, 1) := by decide +kernel
theorem dX7_jumpsAt_2 : decode cX7_jumpsAt 2 = .ok (.invokevirtual 57, 3) := by decide +kernel
theorem dX7_jumpsAt_5 : decode cX7_jumpsAt 5 = .ok (.ifCond .eq 18, 3) := by decide +kernel
theorem dX7_jumpsAt_8 : decode cX7_jumpsAt 8 = .ok (.aload_n 0, 1) := by decide +kernel
theorem dX7_jumpsAt_9 : decode cX7_jumpsAt 9 = .ok (.iload_n 1, 1) := by decide +kernel
theorem dX7_jumpsAt_10 : decode cX7_jumpsAt 10 = .ok (.invokevirtual 50, 3) := by decide +kernel
theorem dX7_jumpsAt_13 : decode cX7_jumpsAt 13 = .ok (.invokestatic 60, 3) := by decide +kernel
theorem dX7_jumpsAt_16 : decode cX7_jumpsAt 16 = .ok (.ifCond .eq 7, 3) := by decide +kernel
theorem dX7_jumpsAt_19 : decode cX7_jumpsAt 19 = .ok (.iconst 1, 1) := by decide +kernel
theorem dX7_jumpsAt_20 : decode cX7_jumpsAt 20 = .ok (.goto 4, 3) := by decide +kernel
theorem dX7_jumpsAt_23 : decode cX7_jumpsAt 23 = .ok (.iconst 0, 1) := by decide +kernel
theorem dX7_jumpsAt_24 : decode cX7_jumpsAt 24 = .ok (.ireturn, 1) := by decide +kernel
abbrev wcX7_jumpsAt : List Cond := .code yX7_jumpsAt cX7_jumpsAt 2 (some .boolean) :: wsL_law
def fX7_jumpsAt (v0 : Nat) (v1 : Int32) (g : hs_S) : Option (Int32 × hs_S) :=
  if hs_kd g v0 = 6 then
  hs_bd (fX7_begins v0 v1 g) fun r3 g2 =>
  if r3 = 0 then (
    some ((0 : Int32), g2)
  ) else (
    if hs_kd g2 v0 = 6 then
    hs_bd (fX7_valueAt v0 v1 g2) fun r7 g6 =>
    hs_bd (fX4_isJump r7 g6) fun r10 g9 =>
    if r10 = 0 then (
      some ((0 : Int32), g9)
    ) else (
      some ((1 : Int32), g9)
    )
    else none
  )
  else none
abbrev rmX7_jumpsAt : Room := { frames := 2, cells := 0, slots := 0, locals := 42 }
set_option maxHeartbeats 4000000 in
set_option maxRecDepth 100000 in
theorem ctX7_jumpsAt (l : Launch) (B : Nat) (D : va_G) (E : Nat → ClassId) (v0 : Nat) (v1 : Int32) (g : hs_S) (o : Int32 × hs_S) (hf : fX7_jumpsAt v0 v1 g = some o) : Met l yX7_jumpsAt wcX7_jumpsAt rmX7_jumpsAt (hs_Pc B D E g [.ref (B + v0), .int v1]) (hs_Qi B D E o) (0) (0) (hs_F B) := by
  refine Met.ofW (cc := cX7_jumpsAt) (maxL := 2) (ret := (some .boolean)) (by decide) rfl ?_
  intro p e s m args below meth c s₁ Bd hml hv
  obtain ⟨rfl, hP, hK⟩ := hv
  have hx := Bd.exec
  have hb := Bd.bytes
  have hr := Bd.returns
  have hts := atoms_spec (ws := wcX7_jumpsAt) Bd.pre
  have hown : s.vm.findClass RX7 = some m.cls := findClass_of_methodNamed Bd.named
  have hlocks := Bd.notSynchronized
  have hS : hs_Sx B s.heap s.heap [] := va_S.rf
  have hX : hs_cx cX7_jumpsAt (some .boolean) 2 RX7 wcX7_jumpsAt p s m (List.toArray [.ref (B + v0), .int v1]) meth c D E := ⟨hx, hb, hr, hml, hown, hts, hlocks, hK⟩
  have hl := lv_entry ([.ref (B + v0), .int v1]) (n := 2) (Nat.le_of_ble_eq_true rfl)
  rw [lg_entry_eq]
  generalize (lg_sl ([.ref (B + v0), .int v1]) ++ List.replicate (2 - (lg_sl ([.ref (B + v0), .int v1])).length) Slot.unset).toArray = ls at hl ⊢
  have hl : lv_has ls 2 [(0, .ref (B + v0)), (1, .int v1)] := hl
  have hP : hs_P B D E g s.heap := hP
  unfold fX7_jumpsAt at hf
  refine lv_aload_n hx hb dX7_jumpsAt_0 rfl (lv_at hl 0 rfl) ?_
  refine lv_iload_n hx hb dX7_jumpsAt_1 rfl (lv_at hl 1 rfl) ?_
  obtain ⟨h1, hf⟩ := hs_ck hf
  obtain ⟨r3, g2, h4, hf⟩ := hs_bd_some hf
  refine hs_calli (va_runV (As := [.int v1]) (rest := []) ⟨hx, hb, hml, hown, hts⟩ (ctX7_begins l B D E v0 v1 g _ h4) (cwV 1 hts (hs_gV (fun _ h => List.mem_cons_of_mem _ h) wq305 wq289 wq290 wq43 wq291) rfl rfl rfl (by decide +kernel) ⟨Nat.le_of_ble_eq_true rfl, Nat.le_of_ble_eq_true rfl⟩) (hs_preV (r := (RX7, TX7, 11)) hP hK h1 (by decide) rfl) rfl rfl hl.1 rfl (lv_room (Nat.le_of_ble_eq_true rfl)) dX7_jumpsAt_2 ⟨(Nat.le_of_ble_eq_true rfl), (Nat.le_of_ble_eq_true rfl)⟩) hS (fun H locs hP hS => ?_)
  refine lv_if_eq (tgt := 23) hx hb dX7_jumpsAt_5 (by decide) (fun hc => ?_) (fun hc => ?_)
  · replace hf := hs_t hf hc
    refine lv_iconst (v := 0) hx hb dX7_jumpsAt_23 (by decide) ?_
    exact hs_iret hx hb hr hlocks (hs_01_nar (rfl)) hK hP hS hf dX7_jumpsAt_24
  · replace hf := hs_f hf hc
    refine lv_aload_n hx hb dX7_jumpsAt_8 rfl (lv_at hl 0 rfl) ?_
    refine lv_iload_n hx hb dX7_jumpsAt_9 rfl (lv_at hl 1 rfl) ?_
    obtain ⟨h5, hf⟩ := hs_ck hf
    obtain ⟨r7, g6, h8, hf⟩ := hs_bd_some hf
    refine hs_calli (va_runV (As := [.int v1]) (rest := []) ⟨hx, hb, hml, hown, hts⟩ (ctX7_valueAt l B D E v0 v1 g2 _ h8) (cwV 1 hts (hs_gV (fun _ h => List.mem_cons_of_mem _ h) wq248 wq249 wq250 wq43 wq251) rfl rfl rfl (by decide +kernel) ⟨Nat.le_of_ble_eq_true rfl, Nat.le_of_ble_eq_true rfl⟩) (hs_preV (r := (RX7, TX7, 11)) hP hK h5 (by decide) rfl) rfl rfl hl.1 rfl (lv_room (Nat.le_of_ble_eq_true rfl)) dX7_jumpsAt_10 ⟨(Nat.le_of_ble_eq_true rfl), (Nat.le_of_ble_eq_true rfl)⟩) hS (fun H locs hP hS => ?_)
    obtain ⟨r10, g9, h11, hf⟩ := hs_bd_some hf
    refine hs_calli (va_runS (As := [.int r7]) (rest := []) ⟨hx, hb, hml, hown, hts⟩ (ctX4_isJump l B D E r7 g6 _ h11) (va_cwS 1 hts (hs_gS (fun _ h => List.mem_cons_of_mem _ h) wq306 wq307 wq258 wq308) rfl rfl rfl (by decide +kernel) ⟨Nat.le_of_ble_eq_true rfl, Nat.le_of_ble_eq_true rfl⟩) (hs_pre hP hK) rfl rfl hl.1 rfl (lv_room (Nat.le_of_ble_eq_true rfl)) dX7_jumpsAt_13 ⟨(Nat.le_of_ble_eq_true rfl), (Nat.le_of_ble_eq_true rfl)⟩) hS (fun H locs hP hS => ?_)
    refine lv_if_eq (tgt := 23) hx hb dX7_jumpsAt_16 (by decide) (fun hc => ?_) (fun hc => ?_)
    · replace hf := hs_t hf hc
      refine lv_iconst (v := 0) hx hb dX7_jumpsAt_23 (by decide) ?_
      exact hs_iret hx hb hr hlocks (hs_01_nar (rfl)) hK hP hS hf dX7_jumpsAt_24
    · replace hf := hs_f hf hc
      refine lv_iconst (v := 1) hx hb dX7_jumpsAt_19 (by decide) ?_
      refine lv_goto (tgt := 24) hx hb dX7_jumpsAt_20 (by decide) ?_
      exact hs_iret hx hb hr hlocks (hs_01_nar (rfl)) hK hP hS hf dX7_jumpsAt_24

theorem dX7_targetOf_0 : decode cX7_targetOf 0 = .ok (.aload_n 0, 1) := by decide +kernel
theorem dX7_targetOf_1 : decode cX7_targetOf 1 = .ok (.iload_n 1, 1) := by decide +kernel
theorem dX7_targetOf_2 : decode cX7_targetOf 2 = .ok (.iconst 1, 1) := by decide +kernel
theorem dX7_targetOf_3 : decode cX7_targetOf 3 = .ok (.iadd, 1) := by decide +kernel
theorem dX7_targetOf_4 : decode cX7_targetOf 4 = .ok (.invokevirtual 50, 3) := by decide +kernel
theorem dX7_targetOf_7 : decode cX7_targetOf 7 = .ok (.istore_n 2, 1) := by decide +kernel
theorem dX7_targetOf_8 : decode cX7_targetOf 8 = .ok (.aload_n 0, 1) := by decide +kernel
theorem dX7_targetOf_9 : decode cX7_targetOf 9 = .ok (.iload_n 1, 1) := by decide +kernel
theorem dX7_targetOf_10 : decode cX7_targetOf 10 = .ok (.invokevirtual 50, 3) := by decide +kernel
theorem dX7_targetOf_13 : decode cX7_targetOf 13 = .ok (.sipush 168, 3) := by decide +kernel
theorem dX7_targetOf_16 : decode cX7_targetOf 16 = .ok (.if_icmp .ne 19, 3) := by decide +kernel
theorem dX7_targetOf_19 : decode cX7_targetOf 19 = .ok (.iload_n 1, 1) := by decide +kernel
theorem dX7_targetOf_20 : decode cX7_targetOf 20 = .ok (.iload_n 2, 1) := by decide +kernel
theorem dX7_targetOf_21 : decode cX7_targetOf 21 = .ok (.bipush 8, 2) := by decide +kernel
theorem dX7_targetOf_23 : decode cX7_targetOf 23 = .ok (.ishl, 1) := by decide +kernel
theorem dX7_targetOf_24 : decode cX7_targetOf 24 = .ok (.aload_n 0, 1) := by decide +kernel
theorem dX7_targetOf_25 : decode cX7_targetOf 25 = .ok (.iload_n 1, 1) := by decide +kernel
theorem dX7_targetOf_26 : decode cX7_targetOf 26 = .ok (.iconst 2, 1) := by decide +kernel
theorem dX7_targetOf_27 : decode cX7_targetOf 27 = .ok (.iadd, 1) := by decide +kernel
theorem dX7_targetOf_28 : decode cX7_targetOf 28 = .ok (.invokevirtual 50, 3) := by decide +kernel
theorem dX7_targetOf_31 : decode cX7_targetOf 31 = .ok (.ior, 1) := by decide +kernel
theorem dX7_targetOf_32 : decode cX7_targetOf 32 = .ok (.i2s, 1) := by decide +kernel
theorem dX7_targetOf_33 : decode cX7_targetOf 33 = .ok (.iadd, 1) := by decide +kernel
theorem dX7_targetOf_34 : decode cX7_targetOf 34 = .ok (.ireturn, 1) := by decide +kernel
theorem dX7_targetOf_35 : decode cX7_targetOf 35 = .ok (.iload_n 1, 1) := by decide +kernel
theorem dX7_targetOf_36 : decode cX7_targetOf 36 = .ok (.iload_n 2, 1) := by decide +kernel
theorem dX7_targetOf_37 : decode cX7_targetOf 37 = .ok (.i2b, 1) := by decide +kernel
theorem dX7_targetOf_38 : decode cX7_targetOf 38 = .ok (.iadd, 1) := by decide +kernel
theorem dX7_targetOf_39 : decode cX7_targetOf 39 = .ok (.ireturn, 1) := by decide +kernel
abbrev wcX7_targetOf : List Cond := .code yX7_targetOf cX7_targetOf 3 (some .int) :: wsL_law
def fX7_targetOf (v0 : Nat) (v1 : Int32) (g : hs_S) : Option (Int32 × hs_S) :=
  if hs_kd g v0 = 6 then
  hs_bd (fX7_valueAt v0 (v1 + (1 : Int32)) g) fun r3 g2 =>
  if hs_kd g2 v0 = 6 then
  hs_bd (fX7_valueAt v0 v1 g2) fun r7 g6 =>
  if r7 = (168 : Int32) then (
    if hs_kd g6 v0 = 6 then
    hs_bd (fX7_valueAt v0 (v1 + (2 : Int32)) g6) fun r11 g10 =>
    some ((v1 + (((r3 <<< ((8 : Int32) &&& 31)) ||| r11).toInt16.toInt32)), g10)
    else none
  ) else (
    some ((v1 + (r3.toInt8.toInt32)), g6)
  )
  else none else none
abbrev rmX7_targetOf : Room := { frames := 2, cells := 0, slots := 0, locals := 42 }
set_option maxHeartbeats 4000000 in
set_option maxRecDepth 100000 in
theorem ctX7_targetOf (l : Launch) (B : Nat) (D : va_G) (E : Nat → ClassId) (v0 : Nat) (v1 : Int32) (g : hs_S) (o : Int32 × hs_S) (hf : fX7_targetOf v0 v1 g = some o) : Met l yX7_targetOf wcX7_targetOf rmX7_targetOf (hs_Pc B D E g [.ref (B + v0), .int v1]) (hs_Qi B D E o) (0) (0) (hs_F B) := by
  refine Met.ofW (cc := cX7_targetOf) (maxL := 3) (ret := (some .int)) (by decide) rfl ?_
  intro p e s m args below meth c s₁ Bd hml hv
  obtain ⟨rfl, hP, hK⟩ := hv
  have hx := Bd.exec
  have hb := Bd.bytes
  have hr := Bd.returns
  have hts := atoms_spec (ws := wcX7_targetOf) Bd.pre
  have hown : s.vm.findClass RX7 = some m.cls := findClass_of_methodNamed Bd.named
  have hlocks := Bd.notSynchronized
  have hS : hs_Sx B s.heap s.heap [] := va_S.rf
  have hX : hs_cx cX7_targetOf (some .int) 3 RX7 wcX7_targetOf p s m (List.toArray [.ref (B + v0), .int v1]) meth c D E := ⟨hx, hb, hr, hml, hown, hts, hlocks, hK⟩
  have hl := lv_entry ([.ref (B + v0), .int v1]) (n := 3) (Nat.le_of_ble_eq_true rfl)
  rw [lg_entry_eq]
  generalize (lg_sl ([.ref (B + v0), .int v1]) ++ List.replicate (3 - (lg_sl ([.ref (B + v0), .int v1])).length) Slot.unset).toArray = ls at hl ⊢
  have hl : lv_has ls 3 [(0, .ref (B + v0)), (1, .int v1)] := hl
  have hP : hs_P B D E g s.heap := hP
  unfold fX7_targetOf at hf
  refine lv_aload_n hx hb dX7_targetOf_0 rfl (lv_at hl 0 rfl) ?_
  refine lv_iload_n hx hb dX7_targetOf_1 rfl (lv_at hl 1 rfl) ?_
  refine lv_iconst (v := 1) hx hb dX7_targetOf_2 (by decide) ?_
  refine lv_iadd hx hb dX7_targetOf_3 ?_
  obtain ⟨h1, hf⟩ := hs_ck hf
  obtain ⟨r3, g2, h4, hf⟩ := hs_bd_some hf
  refine hs_calli (va_runV (As := [.int (v1 + (1 : Int32))]) (rest := []) ⟨hx, hb, hml, hown, hts⟩ (ctX7_valueAt l B D E v0 (v1 + (1 : Int32)) g _ h4) (cwV 1 hts (hs_gV (fun _ h => List.mem_cons_of_mem _ h) wq248 wq249 wq250 wq43 wq251) rfl rfl rfl (by decide +kernel) ⟨Nat.le_of_ble_eq_true rfl, Nat.le_of_ble_eq_true rfl⟩) (hs_preV (r := (RX7, TX7, 11)) hP hK h1 (by decide) rfl) rfl rfl hl.1 rfl (lv_room (Nat.le_of_ble_eq_true rfl)) dX7_targetOf_4 ⟨(Nat.le_of_ble_eq_true rfl), (Nat.le_of_ble_eq_true rfl)⟩) hS (fun H locs hP hS => ?_)
  refine lv_istore_n (lv' := [(2, .int r3), (0, .ref (B + v0)), (1, .int v1)]) hx hb dX7_targetOf_7 rfl hl (by decide) rfl (fun ls hl => ?_)
  refine lv_aload_n hx hb dX7_targetOf_8 rfl (lv_at hl 1 rfl) ?_
  refine lv_iload_n hx hb dX7_targetOf_9 rfl (lv_at hl 2 rfl) ?_
  obtain ⟨h5, hf⟩ := hs_ck hf
  obtain ⟨r7, g6, h8, hf⟩ := hs_bd_some hf
  refine hs_calli (va_runV (As := [.int v1]) (rest := []) ⟨hx, hb, hml, hown, hts⟩ (ctX7_valueAt l B D E v0 v1 g2 _ h8) (cwV 1 hts (hs_gV (fun _ h => List.mem_cons_of_mem _ h) wq248 wq249 wq250 wq43 wq251) rfl rfl rfl (by decide +kernel) ⟨Nat.le_of_ble_eq_true rfl, Nat.le_of_ble_eq_true rfl⟩) (hs_preV (r := (RX7, TX7, 11)) hP hK h5 (by decide) rfl) rfl rfl hl.1 rfl (lv_room (Nat.le_of_ble_eq_true rfl)) dX7_targetOf_10 ⟨(Nat.le_of_ble_eq_true rfl), (Nat.le_of_ble_eq_true rfl)⟩) hS (fun H locs hP hS => ?_)
  refine lv_sipush (v := 168) hx hb dX7_targetOf_13 (by decide) ?_
  refine lv_icmp_ne (tgt := 35) hx hb dX7_targetOf_16 (by decide) (fun hc => ?_) (fun hc => ?_)
  · replace hf := hs_f hf hc
    refine lv_iload_n hx hb dX7_targetOf_35 rfl (lv_at hl 2 rfl) ?_
    refine lv_iload_n hx hb dX7_targetOf_36 rfl (lv_at hl 0 rfl) ?_
    refine lv_i2b hx hb dX7_targetOf_37 rfl ?_
    refine lv_iadd hx hb dX7_targetOf_38 ?_
    exact hs_iret hx hb hr hlocks rfl hK hP hS hf dX7_targetOf_39
  · replace hf := hs_t hf hc
    refine lv_iload_n hx hb dX7_targetOf_19 rfl (lv_at hl 2 rfl) ?_
    refine lv_iload_n hx hb dX7_targetOf_20 rfl (lv_at hl 0 rfl) ?_
    refine lv_bipush (v := 8) hx hb dX7_targetOf_21 (by decide) ?_
    refine lv_ishl hx hb dX7_targetOf_23 ?_
    refine lv_aload_n hx hb dX7_targetOf_24 rfl (lv_at hl 1 rfl) ?_
    refine lv_iload_n hx hb dX7_targetOf_25 rfl (lv_at hl 2 rfl) ?_
    refine lv_iconst (v := 2) hx hb dX7_targetOf_26 (by decide) ?_
    refine lv_iadd hx hb dX7_targetOf_27 ?_
    obtain ⟨h9, hf⟩ := hs_ck hf
    obtain ⟨r11, g10, h12, hf⟩ := hs_bd_some hf
    refine hs_calli (va_runV (As := [.int (v1 + (2 : Int32))]) (rest := [.int (r3 <<< ((8 : Int32) &&& 31)), .int v1]) ⟨hx, hb, hml, hown, hts⟩ (ctX7_valueAt l B D E v0 (v1 + (2 : Int32)) g6 _ h12) (cwV 1 hts (hs_gV (fun _ h => List.mem_cons_of_mem _ h) wq248 wq249 wq250 wq43 wq251) rfl rfl rfl (by decide +kernel) ⟨Nat.le_of_ble_eq_true rfl, Nat.le_of_ble_eq_true rfl⟩) (hs_preV (r := (RX7, TX7, 11)) hP hK h9 (by decide) rfl) rfl rfl hl.1 rfl (lv_room (Nat.le_of_ble_eq_true rfl)) dX7_targetOf_28 ⟨(Nat.le_of_ble_eq_true rfl), (Nat.le_of_ble_eq_true rfl)⟩) hS (fun H locs hP hS => ?_)
    refine lv_ior hx hb dX7_targetOf_31 ?_
    refine lv_i2s hx hb dX7_targetOf_32 rfl ?_
    refine lv_iadd hx hb dX7_targetOf_33 ?_
    exact hs_iret hx hb hr hlocks rfl hK hP hS hf dX7_targetOf_34

theorem dX2_wrongJump_0 : decode cX2_wrongJump 0 = .ok (.iconst 0, 1) := by decide +kernel
theorem dX2_wrongJump_1 : decode cX2_wrongJump 1 = .ok (.istore_n 2, 1) := by decide +kernel
theorem dX2_wrongJump_2 : decode cX2_wrongJump 2 = .ok (.iload_n 2, 1) := by decide +kernel
theorem dX2_wrongJump_3 : decode cX2_wrongJump 3 = .ok (.aload_n 1, 1) := by decide +kernel
theorem dX2_wrongJump_4 : decode cX2_wrongJump 4 = .ok (.getfield 59, 3) := by decide +kernel
theorem dX2_wrongJump_7 : decode cX2_wrongJump 7 = .ok (.if_icmp .ge 36, 3) := by decide +kernel
theorem dX2_wrongJump_10 : decode cX2_wrongJump 10 = .ok (.aload_n 1, 1) := by decide +kernel
theorem dX2_wrongJump_11 : decode cX2_wrongJump 11 = .ok (.iload_n 2, 1) := by decide +kernel
theorem dX2_wrongJump_12 : decode cX2_wrongJump 12 = .ok (.invokevirtual 125, 3) := by decide +kernel
theorem dX2_wrongJump_15 : decode cX2_wrongJump 15 = .ok (.ifCond .eq 22, 3) := by decide +kernel
theorem dX2_wrongJump_18 : decode cX2_wrongJump 18 = .ok (.aload_n 1, 1) := by decide +kernel
theorem dX2_wrongJump_19 : decode cX2_wrongJump 19 = .ok (.aload_n 1, 1) := by decide +kernel
theorem dX2_wrongJump_20 : decode cX2_wrongJump 20 = .ok (.iload_n 2, 1) := by decide +kernel
theorem dX2_wrongJump_21 : decode cX2_wrongJump 21 = .ok (.invokevirtual 128, 3) := by decide +kernel
theorem dX2_wrongJump_24 : decode cX2_wrongJump 24 = .ok (.invokevirtual 118, 3) := by decide +kernel
theorem dX2_wrongJump_27 : decode cX2_wrongJump 27 = .ok (.ifCond .ne 10, 3) := by decide +kernel
theorem dX2_wrongJump_30 : decode cX2_wrongJump 30 = .ok (.aload_n 1, 1) := by decide +kernel
theorem dX2_wrongJump_31 : decode cX2_wrongJump 31 = .ok (.getfield 56, 3) := by decide +kernel
theorem dX2_wrongJump_34 : decode cX2_wrongJump 34 = .ok (.iload_n 2, 1) := by decide +kernel
theorem dX2_wrongJump_35 : decode cX2_wrongJump 35 = .ok (.iadd, 1) := by decide +kernel
theorem dX2_wrongJump_36 : decode cX2_wrongJump 36 = .ok (.ireturn, 1) := by decide +kernel
theorem dX2_wrongJump_37 : decode cX2_wrongJump 37 = .ok (.iinc 2 1, 3) := by decide +kernel
theorem dX2_wrongJump_40 : decode cX2_wrongJump 40 = .ok (.goto (-38), 3) := by decide +kernel
theorem dX2_wrongJump_43 : decode cX2_wrongJump 43 = .ok (.iconst (-1), 1) := by decide +kernel
theorem dX2_wrongJump_44 : decode cX2_wrongJump 44 = .ok (.ireturn, 1) := by decide +kernel
abbrev wcX2_wrongJump : List Cond := .code yX2_wrongJump cX2_wrongJump 3 (some .int) :: wsL_law
def jX2_wrongJump_37 (rec : Int32 → hs_S → Option (Nat × Int32 × hs_S)) (v1 : Nat) (v2 : Int32) (g : hs_S) : Option (Nat × Int32 × hs_S) :=
  rec (v2 + (1 : Int32)) g
def lX2_wrongJump_2 : Nat → Nat → Int32 → hs_S → Option (Nat × Int32 × hs_S)
  | 0, _, _, _ => none
  | n + 1, v1, v2, g =>
    if hs_kd g v1 = 6 then
    if (hs_I g v1 3) ≤ v2 then (
      some (0, v2, g)
    ) else (
      hs_bd (fX7_jumpsAt v1 v2 g) fun r3 g2 =>
      if r3 = 0 then (
        jX2_wrongJump_37 (fun y0 g => lX2_wrongJump_2 n v1 y0 g) v1 v2 g2
      ) else (
        if hs_kd g2 v1 = 6 then
        hs_bd (fX7_targetOf v1 v2 g2) fun r7 g6 =>
        if hs_kd g6 v1 = 6 then
        hs_bd (fX7_begins v1 r7 g6) fun r11 g10 =>
        if r11 = 0 then (
          some (1, v2, g10)
        ) else (
          jX2_wrongJump_37 (fun y0 g => lX2_wrongJump_2 n v1 y0 g) v1 v2 g10
        )
        else none else none
      )
    )
    else none
theorem lX2_wrongJump_2_s (n : Nat) (v1 : Nat) (v2 : Int32) (g : hs_S) : lX2_wrongJump_2 (n + 1) v1 v2 g =
    if hs_kd g v1 = 6 then
    if (hs_I g v1 3) ≤ v2 then (
      some (0, v2, g)
    ) else (
      hs_bd (fX7_jumpsAt v1 v2 g) fun r3 g2 =>
      if r3 = 0 then (
        jX2_wrongJump_37 (fun y0 g => lX2_wrongJump_2 n v1 y0 g) v1 v2 g2
      ) else (
        if hs_kd g2 v1 = 6 then
        hs_bd (fX7_targetOf v1 v2 g2) fun r7 g6 =>
        if hs_kd g6 v1 = 6 then
        hs_bd (fX7_begins v1 r7 g6) fun r11 g10 =>
        if r11 = 0 then (
          some (1, v2, g10)
        ) else (
          jX2_wrongJump_37 (fun y0 g => lX2_wrongJump_2 n v1 y0 g) v1 v2 g10
        )
        else none else none
      )
    )
    else none := rfl
def fX2_wrongJump (v0 : Nat) (v1 : Nat) (g : hs_S) : Option (Int32 × hs_S) :=
  hs_b3 (lX2_wrongJump_2 hs_N v1 (0 : Int32) g) fun k14 x13 g15 =>
  if k14 = 0 then (
    some ((-1 : Int32), g15)
  ) else (
    if hs_kd g15 v1 = 6 then
    some (((hs_I g15 v1 2) + x13), g15)
    else none
  )
abbrev rmX2_wrongJump : Room := { frames := 3, cells := 0, slots := 0, locals := 64 }
set_option maxHeartbeats 4000000 in
set_option maxRecDepth 100000 in
theorem wX2_wrongJump_j37 {p : Program} {l : Launch} {e : Env} {s : State} {m : MethodId} {args : Array Value} {below : List Frame} {meth : Method} {c : Code} {B : Nat} {D : va_G} {E : Nat → ClassId} (hX : hs_cx cX2_wrongJump (some .int) 3 RX2 wcX2_wrongJump p s m args meth c D E) {Q : State → Prop} {o : Nat × Int32 × hs_S} {rec : Int32 → hs_S → Option (Nat × Int32 × hs_S)} {v1 : Nat} {v2 : Int32}  (hrec : ∀ (y0 : Int32) (g : hs_S) (H : Heap) (locs : List Loc) (ls : Array Slot), rec y0 g = some o → hs_P B D E g H → hs_Sx B s.heap H locs → lv_has ls 3 [(1, .ref (B + v1)), (2, .int y0)] → W p l e rmX2_wrongJump s m args below meth c H locs 0 0 Q (F0 m 2 ls [])) (hex0 : o.1 = 0 → ∀ (H : Heap) (locs : List Loc) (ls : Array Slot), hs_P B D E (o.2.2) H → hs_Sx B s.heap H locs → lv_has ls 3 [] → W p l e rmX2_wrongJump s m args below meth c H locs 0 0 Q (F0 m 43 ls [])) (hex1 : o.1 = 1 → ∀ (H : Heap) (locs : List Loc) (ls : Array Slot), hs_P B D E (o.2.2) H → hs_Sx B s.heap H locs → lv_has ls 3 [(1, .ref (B + v1)), (2, .int (o.2.1))] → W p l e rmX2_wrongJump s m args below meth c H locs 0 0 Q (F0 m 30 ls [])) {g : hs_S} {H : Heap} {locs : List Loc} {ls : Array Slot} (hf : jX2_wrongJump_37 rec v1 v2 g = some o) (hP : hs_P B D E g H) (hS : hs_Sx B s.heap H locs) (hl : lv_has ls 3 [(1, .ref (B + v1)), (2, .int v2)]) : W p l e rmX2_wrongJump s m args below meth c H locs 0 0 Q (F0 m 37 ls []) := by
  obtain ⟨hx, hb, hr, hml, hown, hts, hlocks, hK⟩ := id hX
  unfold jX2_wrongJump_37 at hf
  refine lv_iinc (v := (v2 + (1 : Int32))) (lv' := [(2, .int (v2 + (1 : Int32))), (1, .ref (B + v1))]) hx hb dX2_wrongJump_37 hl (k := 1) rfl (by rfl) (by decide) rfl (fun ls hl => ?_)
  refine lv_goto (tgt := 2) hx hb dX2_wrongJump_40 (by decide) ?_
  exact hrec _ _ _ _ _ hf hP hS (lv_sub hl [1, 0] rfl)

set_option maxHeartbeats 4000000 in
set_option maxRecDepth 100000 in
theorem wX2_wrongJump_2 {p : Program} {l : Launch} {e : Env} {s : State} {m : MethodId} {args : Array Value} {below : List Frame} {meth : Method} {c : Code} {B : Nat} {D : va_G} {E : Nat → ClassId} (hX : hs_cx cX2_wrongJump (some .int) 3 RX2 wcX2_wrongJump p s m args meth c D E) {Q : State → Prop} {o : Nat × Int32 × hs_S} {v1 : Nat} (hex0 : o.1 = 0 → ∀ (H : Heap) (locs : List Loc) (ls : Array Slot), hs_P B D E (o.2.2) H → hs_Sx B s.heap H locs → lv_has ls 3 [] → W p l e rmX2_wrongJump s m args below meth c H locs 0 0 Q (F0 m 43 ls [])) (hex1 : o.1 = 1 → ∀ (H : Heap) (locs : List Loc) (ls : Array Slot), hs_P B D E (o.2.2) H → hs_Sx B s.heap H locs → lv_has ls 3 [(1, .ref (B + v1)), (2, .int (o.2.1))] → W p l e rmX2_wrongJump s m args below meth c H locs 0 0 Q (F0 m 30 ls [])) : ∀ (n : Nat) (v2 : Int32) (g : hs_S), lX2_wrongJump_2 n v1 v2 g = some o → ∀ (H : Heap) (locs : List Loc) (ls : Array Slot), hs_P B D E g H → hs_Sx B s.heap H locs → lv_has ls 3 [(1, .ref (B + v1)), (2, .int v2)] → W p l e rmX2_wrongJump s m args below meth c H locs 0 0 Q (F0 m 2 ls []) := by
  obtain ⟨hx, hb, hr, hml, hown, hts, hlocks, hK⟩ := id hX
  intro n
  induction n with
  | zero =>
    intro v2 g hf
    cases hf
  | succ n ih =>
    intro v2 g hf H locs ls hP hS hl
    replace hf := (lX2_wrongJump_2_s n v1 v2 g).symm.trans hf
    refine lv_iload_n hx hb dX2_wrongJump_2 rfl (lv_at hl 1 rfl) ?_
    refine lv_aload_n hx hb dX2_wrongJump_3 rfl (lv_at hl 0 rfl) ?_
    obtain ⟨h1, hf⟩ := hs_ck hf
    refine hs_geti (C := RX7) (T := TX7) (N := 11) hx hb hts (fun w h => List.mem_cons_of_mem _ (inlX7 w h)) hown hK.1 hP h1 (by decide) rfl 3 (by decide) (hts _ (List.mem_cons_of_mem _ wq219)) (fun _ h => h) rfl dX2_wrongJump_4 ?_
    refine lv_icmp_ge (tgt := 43) hx hb dX2_wrongJump_7 (by decide) (fun hc => ?_) (fun hc => ?_)
    · replace hf := hs_t hf hc
      obtain rfl := Option.some.inj hf
      exact hex0 rfl _ _ _ hP hS (lv_sub hl [] rfl)
    · replace hf := hs_f hf hc
      refine lv_aload_n hx hb dX2_wrongJump_10 rfl (lv_at hl 0 rfl) ?_
      refine lv_iload_n hx hb dX2_wrongJump_11 rfl (lv_at hl 1 rfl) ?_
      obtain ⟨r3, g2, h4, hf⟩ := hs_bd_some hf
      refine hs_calli (va_runV (As := [.int v2]) (rest := []) ⟨hx, hb, hml, hown, hts⟩ (ctX7_jumpsAt l B D E v1 v2 g _ h4) (cwV 1 hts (hs_gV (fun _ h => List.mem_cons_of_mem _ h) wq301 wq302 wq303 wq43 wq304) rfl rfl rfl (by decide +kernel) ⟨Nat.le_of_ble_eq_true rfl, Nat.le_of_ble_eq_true rfl⟩) (hs_preV (r := (RX7, TX7, 11)) hP hK h1 (by decide) rfl) rfl rfl hl.1 rfl (lv_room (Nat.le_of_ble_eq_true rfl)) dX2_wrongJump_12 ⟨(Nat.le_of_ble_eq_true rfl), (Nat.le_of_ble_eq_true rfl)⟩) hS (fun H locs hP hS => ?_)
      refine lv_if_eq (tgt := 37) hx hb dX2_wrongJump_15 (by decide) (fun hc => ?_) (fun hc => ?_)
      · replace hf := hs_t hf hc
        exact wX2_wrongJump_j37 hX (fun z0 g H locs ls hf hP hS hl => ih z0 g hf H locs ls hP hS hl) hex0 hex1 hf hP hS (lv_sub hl [0, 1] rfl)
      · replace hf := hs_f hf hc
        refine lv_aload_n hx hb dX2_wrongJump_18 rfl (lv_at hl 0 rfl) ?_
        refine lv_aload_n hx hb dX2_wrongJump_19 rfl (lv_at hl 0 rfl) ?_
        refine lv_iload_n hx hb dX2_wrongJump_20 rfl (lv_at hl 1 rfl) ?_
        obtain ⟨h5, hf⟩ := hs_ck hf
        obtain ⟨r7, g6, h8, hf⟩ := hs_bd_some hf
        refine hs_calli (va_runV (As := [.int v2]) (rest := [.ref (B + v1)]) ⟨hx, hb, hml, hown, hts⟩ (ctX7_targetOf l B D E v1 v2 g2 _ h8) (cwV 1 hts (hs_gV (fun _ h => List.mem_cons_of_mem _ h) wq309 wq310 wq311 wq43 wq312) rfl rfl rfl (by decide +kernel) ⟨Nat.le_of_ble_eq_true rfl, Nat.le_of_ble_eq_true rfl⟩) (hs_preV (r := (RX7, TX7, 11)) hP hK h5 (by decide) rfl) rfl rfl hl.1 rfl (lv_room (Nat.le_of_ble_eq_true rfl)) dX2_wrongJump_21 ⟨(Nat.le_of_ble_eq_true rfl), (Nat.le_of_ble_eq_true rfl)⟩) hS (fun H locs hP hS => ?_)
        obtain ⟨h9, hf⟩ := hs_ck hf
        obtain ⟨r11, g10, h12, hf⟩ := hs_bd_some hf
        refine hs_calli (va_runV (As := [.int r7]) (rest := []) ⟨hx, hb, hml, hown, hts⟩ (ctX7_begins l B D E v1 r7 g6 _ h12) (cwV 1 hts (hs_gV (fun _ h => List.mem_cons_of_mem _ h) wq288 wq289 wq290 wq43 wq291) rfl rfl rfl (by decide +kernel) ⟨Nat.le_of_ble_eq_true rfl, Nat.le_of_ble_eq_true rfl⟩) (hs_preV (r := (RX7, TX7, 11)) hP hK h9 (by decide) rfl) rfl rfl hl.1 rfl (lv_room (Nat.le_of_ble_eq_true rfl)) dX2_wrongJump_24 ⟨(Nat.le_of_ble_eq_true rfl), (Nat.le_of_ble_eq_true rfl)⟩) hS (fun H locs hP hS => ?_)
        refine lv_if_ne (tgt := 37) hx hb dX2_wrongJump_27 (by decide) (fun hc => ?_) (fun hc => ?_)
        · replace hf := hs_f hf hc
          exact wX2_wrongJump_j37 hX (fun z0 g H locs ls hf hP hS hl => ih z0 g hf H locs ls hP hS hl) hex0 hex1 hf hP hS (lv_sub hl [0, 1] rfl)
        · replace hf := hs_t hf hc
          obtain rfl := Option.some.inj hf
          exact hex1 rfl _ _ _ hP hS (lv_sub hl [0, 1] rfl)

set_option maxHeartbeats 4000000 in
set_option maxRecDepth 100000 in
theorem ctX2_wrongJump (l : Launch) (B : Nat) (D : va_G) (E : Nat → ClassId) (v0 : Nat) (v1 : Nat) (g : hs_S) (o : Int32 × hs_S) (hf : fX2_wrongJump v0 v1 g = some o) : Met l yX2_wrongJump wcX2_wrongJump rmX2_wrongJump (hs_Pc B D E g [.ref (B + v0), .ref (B + v1)]) (hs_Qi B D E o) (0) (0) (hs_F B) := by
  refine Met.ofW (cc := cX2_wrongJump) (maxL := 3) (ret := (some .int)) (by decide) rfl ?_
  intro p e s m args below meth c s₁ Bd hml hv
  obtain ⟨rfl, hP, hK⟩ := hv
  have hx := Bd.exec
  have hb := Bd.bytes
  have hr := Bd.returns
  have hts := atoms_spec (ws := wcX2_wrongJump) Bd.pre
  have hown : s.vm.findClass RX2 = some m.cls := findClass_of_methodNamed Bd.named
  have hlocks := Bd.notSynchronized
  have hS : hs_Sx B s.heap s.heap [] := va_S.rf
  have hX : hs_cx cX2_wrongJump (some .int) 3 RX2 wcX2_wrongJump p s m (List.toArray [.ref (B + v0), .ref (B + v1)]) meth c D E := ⟨hx, hb, hr, hml, hown, hts, hlocks, hK⟩
  have hl := lv_entry ([.ref (B + v0), .ref (B + v1)]) (n := 3) (Nat.le_of_ble_eq_true rfl)
  rw [lg_entry_eq]
  generalize (lg_sl ([.ref (B + v0), .ref (B + v1)]) ++ List.replicate (3 - (lg_sl ([.ref (B + v0), .ref (B + v1)])).length) Slot.unset).toArray = ls at hl ⊢
  have hl : lv_has ls 3 [(0, .ref (B + v0)), (1, .ref (B + v1))] := hl
  have hP : hs_P B D E g s.heap := hP
  unfold fX2_wrongJump at hf
  refine lv_iconst (v := 0) hx hb dX2_wrongJump_0 (by decide) ?_
  refine lv_istore_n (lv' := [(2, .int (0 : Int32)), (0, .ref (B + v0)), (1, .ref (B + v1))]) hx hb dX2_wrongJump_1 rfl hl (by decide) rfl (fun ls hl => ?_)
  obtain ⟨k14, x13, g15, h16, hf⟩ := hs_b3_some hf
  refine wX2_wrongJump_2 hX (fun hlab H locs ls hP hS hl => ?_) (fun hlab H locs ls hP hS hl => ?_) hs_N _ _ h16 _ _ _ hP hS (lv_sub hl [2, 0] rfl)
  · replace hlab : k14 = 0 := hlab
    replace hf := hs_t hf hlab
    refine lv_iconst (v := -1) hx hb dX2_wrongJump_43 (by decide) ?_
    exact hs_iret hx hb hr hlocks rfl hK hP hS hf dX2_wrongJump_44
  · replace hlab : k14 = 1 := hlab
    replace hf := hs_f hf (by rw [hlab]; decide)
    refine lv_aload_n hx hb dX2_wrongJump_30 rfl (lv_at hl 0 rfl) ?_
    obtain ⟨h17, hf⟩ := hs_ck hf
    refine hs_geti (C := RX7) (T := TX7) (N := 11) hx hb hts (fun w h => List.mem_cons_of_mem _ (inlX7 w h)) hown hK.1 hP h17 (by decide) rfl 2 (by decide) (hts _ (List.mem_cons_of_mem _ wq220)) (fun _ h => h) rfl dX2_wrongJump_31 ?_
    refine lv_iload_n hx hb dX2_wrongJump_34 rfl (lv_at hl 1 rfl) ?_
    refine lv_iadd hx hb dX2_wrongJump_35 ?_
    exact hs_iret hx hb hr hlocks rfl hK hP hS hf dX2_wrongJump_36

theorem dX4_endsWay_0 : decode cX4_endsWay 0 = .ok (.iload_n 0, 1) := by decide +kernel
theorem dX4_endsWay_1 : decode cX4_endsWay 1 = .ok (.sipush 167, 3) := by decide +kernel
theorem dX4_endsWay_4 : decode cX4_endsWay 4 = .ok (.if_icmp .eq 24, 3) := by decide +kernel
theorem dX4_endsWay_7 : decode cX4_endsWay 7 = .ok (.iload_n 0, 1) := by decide +kernel
theorem dX4_endsWay_8 : decode cX4_endsWay 8 = .ok (.sipush 168, 3) := by decide +kernel
theorem dX4_endsWay_11 : decode cX4_endsWay 11 = .ok (.if_icmp .eq 17, 3) := by decide +kernel
theorem dX4_endsWay_14 : decode cX4_endsWay 14 = .ok (.iload_n 0, 1) := by decide +kernel
theorem dX4_endsWay_15 : decode cX4_endsWay 15 = .ok (.sipush 172, 3) := by decide +kernel
theorem dX4_endsWay_18 : decode cX4_endsWay 18 = .ok (.if_icmp .eq 10, 3) := by decide +kernel
theorem dX4_endsWay_21 : decode cX4_endsWay 21 = .ok (.iload_n 0, 1) := by decide +kernel
theorem dX4_endsWay_22 : decode cX4_endsWay 22 = .ok (.sipush 191, 3) := by decide +kernel
theorem dX4_endsWay_25 : decode cX4_endsWay 25 = .ok (.if_icmp .ne 7, 3) := by decide +kernel
theorem dX4_endsWay_28 : decode cX4_endsWay 28 = .ok (.iconst 1, 1) := by decide +kernel
theorem dX4_endsWay_29 : decode cX4_endsWay 29 = .ok (.goto 4, 3) := by decide +kernel
theorem dX4_endsWay_32 : decode cX4_endsWay 32 = .ok (.iconst 0, 1) := by decide +kernel
theorem dX4_endsWay_33 : decode cX4_endsWay 33 = .ok (.ireturn, 1) := by decide +kernel
abbrev wcX4_endsWay : List Cond := .code yX4_endsWay cX4_endsWay 1 (some .boolean) :: wsL_law
def jX4_endsWay_28  (g : hs_S) : Option (Int32 × hs_S) :=
  some ((1 : Int32), g)
def fX4_endsWay (v0 : Int32) (g : hs_S) : Option (Int32 × hs_S) :=
  if v0 = (167 : Int32) then (
    jX4_endsWay_28 g
  ) else (
    if v0 = (168 : Int32) then (
      jX4_endsWay_28 g
    ) else (
      if v0 = (172 : Int32) then (
        jX4_endsWay_28 g
      ) else (
        if v0 = (191 : Int32) then (
          jX4_endsWay_28 g
        ) else (
          some ((0 : Int32), g)
        )
      )
    )
  )
abbrev rmX4_endsWay : Room := { frames := 0, cells := 0, slots := 0, locals := 0 }
set_option maxHeartbeats 4000000 in
set_option maxRecDepth 100000 in
theorem wX4_endsWay_j28 {p : Program} {l : Launch} {e : Env} {s : State} {m : MethodId} {args : Array Value} {below : List Frame} {meth : Method} {c : Code} {B : Nat} {D : va_G} {E : Nat → ClassId} (hX : hs_cx cX4_endsWay (some .boolean) 1 RX4 wcX4_endsWay p s m args meth c D E) {o : Int32 × hs_S}     {g : hs_S} {H : Heap} {locs : List Loc} {ls : Array Slot} (hf : jX4_endsWay_28  g = some o) (hP : hs_P B D E g H) (hS : hs_Sx B s.heap H locs) (hl : lv_has ls 1 []) : W p l e rmX4_endsWay s m args below meth c H locs 0 0 (MQ below (hs_Qi B D E o) args s 0 0 (hs_F B)) (F0 m 28 ls []) := by
  obtain ⟨hx, hb, hr, hml, hown, hts, hlocks, hK⟩ := id hX
  unfold jX4_endsWay_28 at hf
  refine lv_iconst (v := 1) hx hb dX4_endsWay_28 (by decide) ?_
  refine lv_goto (tgt := 33) hx hb dX4_endsWay_29 (by decide) ?_
  exact hs_iret hx hb hr hlocks (hs_01_nar (rfl)) hK hP hS hf dX4_endsWay_33

set_option maxHeartbeats 4000000 in
set_option maxRecDepth 100000 in
theorem ctX4_endsWay (l : Launch) (B : Nat) (D : va_G) (E : Nat → ClassId) (v0 : Int32) (g : hs_S) (o : Int32 × hs_S) (hf : fX4_endsWay v0 g = some o) : Met l yX4_endsWay wcX4_endsWay rmX4_endsWay (hs_Pc B D E g [.int v0]) (hs_Qi B D E o) (0) (0) (hs_F B) := by
  refine Met.ofW (cc := cX4_endsWay) (maxL := 1) (ret := (some .boolean)) (by decide) rfl ?_
  intro p e s m args below meth c s₁ Bd hml hv
  obtain ⟨rfl, hP, hK⟩ := hv
  have hx := Bd.exec
  have hb := Bd.bytes
  have hr := Bd.returns
  have hts := atoms_spec (ws := wcX4_endsWay) Bd.pre
  have hown : s.vm.findClass RX4 = some m.cls := findClass_of_methodNamed Bd.named
  have hlocks := Bd.notSynchronized
  have hS : hs_Sx B s.heap s.heap [] := va_S.rf
  have hX : hs_cx cX4_endsWay (some .boolean) 1 RX4 wcX4_endsWay p s m (List.toArray [.int v0]) meth c D E := ⟨hx, hb, hr, hml, hown, hts, hlocks, hK⟩
  have hl := lv_entry ([.int v0]) (n := 1) (Nat.le_of_ble_eq_true rfl)
  rw [lg_entry_eq]
  generalize (lg_sl ([.int v0]) ++ List.replicate (1 - (lg_sl ([.int v0])).length) Slot.unset).toArray = ls at hl ⊢
  have hl : lv_has ls 1 [(0, .int v0)] := hl
  have hP : hs_P B D E g s.heap := hP
  unfold fX4_endsWay at hf
  refine lv_iload_n hx hb dX4_endsWay_0 rfl (lv_at hl 0 rfl) ?_
  refine lv_sipush (v := 167) hx hb dX4_endsWay_1 (by decide) ?_
  refine lv_icmp_eq (tgt := 28) hx hb dX4_endsWay_4 (by decide) (fun hc => ?_) (fun hc => ?_)
  · replace hf := hs_t hf hc
    exact wX4_endsWay_j28 hX hf hP hS (lv_sub hl [] rfl)
  · replace hf := hs_f hf hc
    refine lv_iload_n hx hb dX4_endsWay_7 rfl (lv_at hl 0 rfl) ?_
    refine lv_sipush (v := 168) hx hb dX4_endsWay_8 (by decide) ?_
    refine lv_icmp_eq (tgt := 28) hx hb dX4_endsWay_11 (by decide) (fun hc => ?_) (fun hc => ?_)
    · replace hf := hs_t hf hc
      exact wX4_endsWay_j28 hX hf hP hS (lv_sub hl [] rfl)
    · replace hf := hs_f hf hc
      refine lv_iload_n hx hb dX4_endsWay_14 rfl (lv_at hl 0 rfl) ?_
      refine lv_sipush (v := 172) hx hb dX4_endsWay_15 (by decide) ?_
      refine lv_icmp_eq (tgt := 28) hx hb dX4_endsWay_18 (by decide) (fun hc => ?_) (fun hc => ?_)
      · replace hf := hs_t hf hc
        exact wX4_endsWay_j28 hX hf hP hS (lv_sub hl [] rfl)
      · replace hf := hs_f hf hc
        refine lv_iload_n hx hb dX4_endsWay_21 rfl (lv_at hl 0 rfl) ?_
        refine lv_sipush (v := 191) hx hb dX4_endsWay_22 (by decide) ?_
        refine lv_icmp_ne (tgt := 32) hx hb dX4_endsWay_25 (by decide) (fun hc => ?_) (fun hc => ?_)
        · replace hf := hs_f hf hc
          refine lv_iconst (v := 0) hx hb dX4_endsWay_32 (by decide) ?_
          exact hs_iret hx hb hr hlocks (hs_01_nar (rfl)) hK hP hS hf dX4_endsWay_33
        · replace hf := hs_t hf hc
          exact wX4_endsWay_j28 hX hf hP hS (lv_sub hl [] rfl)

theorem dX7_handlerNumber_0 : decode cX7_handlerNumber 0 = .ok (.aload_n 0, 1) := by decide +kernel
theorem dX7_handlerNumber_1 : decode cX7_handlerNumber 1 = .ok (.getfield 9, 3) := by decide +kernel
theorem dX7_handlerNumber_4 : decode cX7_handlerNumber 4 = .ok (.iload_n 1, 1) := by decide +kernel
theorem dX7_handlerNumber_5 : decode cX7_handlerNumber 5 = .ok (.iconst 4, 1) := by decide +kernel
theorem dX7_handlerNumber_6 : decode cX7_handlerNumber 6 = .ok (.imul, 1) := by decide +kernel
theorem dX7_handlerNumber_7 : decode cX7_handlerNumber 7 = .ok (.iload_n 2, 1) := by decide +kernel
theorem dX7_handlerNumber_8 : decode cX7_handlerNumber 8 = .ok (.iadd, 1) := by decide +kernel
theorem dX7_handlerNumber_9 : decode cX7_handlerNumber 9 = .ok (.invokestatic 68, 3) := by decide +kernel
theorem dX7_handlerNumber_12 : decode cX7_handlerNumber 12 = .ok (.ireturn, 1) := by decide +kernel
abbrev wcX7_handlerNumber : List Cond := .code yX7_handlerNumber cX7_handlerNumber 3 (some .int) :: wsL_law
def fX7_handlerNumber (v0 : Nat) (v1 : Int32) (v2 : Int32) (g : hs_S) : Option (Int32 × hs_S) :=
  if hs_kd g v0 = 6 then
  if ¬ (hs_R g v0 1) = 0 then
  hs_bd (fX9_at ((hs_R g v0 1) - 1) ((v1 * (4 : Int32)) + v2) g) fun r4 g3 =>
  some (r4, g3)
  else none else none
abbrev rmX7_handlerNumber : Room := { frames := 1, cells := 0, slots := 0, locals := 21 }
set_option maxHeartbeats 4000000 in
set_option maxRecDepth 100000 in
theorem ctX7_handlerNumber (l : Launch) (B : Nat) (D : va_G) (E : Nat → ClassId) (v0 : Nat) (v1 : Int32) (v2 : Int32) (g : hs_S) (o : Int32 × hs_S) (hf : fX7_handlerNumber v0 v1 v2 g = some o) : Met l yX7_handlerNumber wcX7_handlerNumber rmX7_handlerNumber (hs_Pc B D E g [.ref (B + v0), .int v1, .int v2]) (hs_Qi B D E o) (0) (0) (hs_F B) := by
  refine Met.ofW (cc := cX7_handlerNumber) (maxL := 3) (ret := (some .int)) (by decide) rfl ?_
  intro p e s m args below meth c s₁ Bd hml hv
  obtain ⟨rfl, hP, hK⟩ := hv
  have hx := Bd.exec
  have hb := Bd.bytes
  have hr := Bd.returns
  have hts := atoms_spec (ws := wcX7_handlerNumber) Bd.pre
  have hown : s.vm.findClass RX7 = some m.cls := findClass_of_methodNamed Bd.named
  have hlocks := Bd.notSynchronized
  have hS : hs_Sx B s.heap s.heap [] := va_S.rf
  have hX : hs_cx cX7_handlerNumber (some .int) 3 RX7 wcX7_handlerNumber p s m (List.toArray [.ref (B + v0), .int v1, .int v2]) meth c D E := ⟨hx, hb, hr, hml, hown, hts, hlocks, hK⟩
  have hl := lv_entry ([.ref (B + v0), .int v1, .int v2]) (n := 3) (Nat.le_of_ble_eq_true rfl)
  rw [lg_entry_eq]
  generalize (lg_sl ([.ref (B + v0), .int v1, .int v2]) ++ List.replicate (3 - (lg_sl ([.ref (B + v0), .int v1, .int v2])).length) Slot.unset).toArray = ls at hl ⊢
  have hl : lv_has ls 3 [(0, .ref (B + v0)), (1, .int v1), (2, .int v2)] := hl
  have hP : hs_P B D E g s.heap := hP
  unfold fX7_handlerNumber at hf
  refine lv_aload_n hx hb dX7_handlerNumber_0 rfl (lv_at hl 0 rfl) ?_
  obtain ⟨h1, hf⟩ := hs_ck hf
  obtain ⟨h2, hf⟩ := hs_ck hf
  refine hs_getr (C := RX7) (T := TX7) (N := 11) hx hb hts (fun w h => List.mem_cons_of_mem _ (inlX7 w h)) hown hK.1 hP h1 (by decide) rfl 1 (by decide) (hts _ (List.mem_cons_of_mem _ wq51)) (fun _ h => h) rfl h2 dX7_handlerNumber_1 ?_
  refine lv_iload_n hx hb dX7_handlerNumber_4 rfl (lv_at hl 1 rfl) ?_
  refine lv_iconst (v := 4) hx hb dX7_handlerNumber_5 (by decide) ?_
  refine lv_imul hx hb dX7_handlerNumber_6 ?_
  refine lv_iload_n hx hb dX7_handlerNumber_7 rfl (lv_at hl 2 rfl) ?_
  refine lv_iadd hx hb dX7_handlerNumber_8 ?_
  obtain ⟨r4, g3, h5, hf⟩ := hs_bd_some hf
  refine hs_calli (va_runS (As := [.ref (B + ((hs_R g v0 1) - 1)), .int ((v1 * (4 : Int32)) + v2)]) (rest := []) ⟨hx, hb, hml, hown, hts⟩ (ctX9_at l B D E ((hs_R g v0 1) - 1) ((v1 * (4 : Int32)) + v2) g _ h5) (va_cwS 2 hts (hs_gS (fun _ h => List.mem_cons_of_mem _ h) wq325 wq193 wq68 wq194) rfl rfl rfl (by decide +kernel) ⟨Nat.le_of_ble_eq_true rfl, Nat.le_of_ble_eq_true rfl⟩) (hs_pre hP hK) rfl rfl hl.1 rfl (lv_room (Nat.le_of_ble_eq_true rfl)) dX7_handlerNumber_9 ⟨(Nat.le_of_ble_eq_true rfl), (Nat.le_of_ble_eq_true rfl)⟩) hS (fun H locs hP hS => ?_)
  exact hs_iret hx hb hr hlocks rfl hK hP hS hf dX7_handlerNumber_12

theorem dX7_beginsBlock_0 : decode cX7_beginsBlock 0 = .ok (.aload_n 0, 1) := by decide +kernel
theorem dX7_beginsBlock_1 : decode cX7_beginsBlock 1 = .ok (.iload_n 1, 1) := by decide +kernel
theorem dX7_beginsBlock_2 : decode cX7_beginsBlock 2 = .ok (.invokevirtual 46, 3) := by decide +kernel
theorem dX7_beginsBlock_5 : decode cX7_beginsBlock 5 = .ok (.ifCond .eq 25, 3) := by decide +kernel
theorem dX7_beginsBlock_8 : decode cX7_beginsBlock 8 = .ok (.aload_n 0, 1) := by decide +kernel
theorem dX7_beginsBlock_9 : decode cX7_beginsBlock 9 = .ok (.getfield 15, 3) := by decide +kernel
theorem dX7_beginsBlock_12 : decode cX7_beginsBlock 12 = .ok (.aload_n 0, 1) := by decide +kernel
theorem dX7_beginsBlock_13 : decode cX7_beginsBlock 13 = .ok (.getfield 18, 3) := by decide +kernel
theorem dX7_beginsBlock_16 : decode cX7_beginsBlock 16 = .ok (.iload_n 1, 1) := by decide +kernel
theorem dX7_beginsBlock_17 : decode cX7_beginsBlock 17 = .ok (.iadd, 1) := by decide +kernel
theorem dX7_beginsBlock_18 : decode cX7_beginsBlock 18 = .ok (.iaload, 1) := by decide +kernel
theorem dX7_beginsBlock_19 : decode cX7_beginsBlock 19 = .ok (.sipush 512, 3) := by decide +kernel
theorem dX7_beginsBlock_22 : decode cX7_beginsBlock 22 = .ok (.iand, 1) := by decide +kernel
theorem dX7_beginsBlock_23 : decode cX7_beginsBlock 23 = .ok (.ifCond .eq 7, 3) := by decide +kernel
theorem dX7_beginsBlock_26 : decode cX7_beginsBlock 26 = .ok (.iconst 1, 1) := by decide +kernel
theorem dX7_beginsBlock_27 : decode cX7_beginsBlock 27 = .ok (.goto 4, 3) := by decide +kernel
theorem dX7_beginsBlock_30 : decode cX7_beginsBlock 30 = .ok (.iconst 0, 1) := by decide +kernel
theorem dX7_beginsBlock_31 : decode cX7_beginsBlock 31 = .ok (.ireturn, 1) := by decide +kernel
abbrev wcX7_beginsBlock : List Cond := .code yX7_beginsBlock cX7_beginsBlock 2 (some .boolean) :: wsL_law
def fX7_beginsBlock (v0 : Nat) (v1 : Int32) (g : hs_S) : Option (Int32 × hs_S) :=
  if hs_kd g v0 = 6 then
  hs_bd (fX7_hasPlace v0 v1 g) fun r3 g2 =>
  if r3 = 0 then (
    some ((0 : Int32), g2)
  ) else (
    if hs_kd g2 v0 = 6 then
    if ¬ (hs_R g2 v0 0) = 0 then
    if hs_kd g2 ((hs_R g2 v0 0) - 1) = 100 then
    if hs_in ((hs_I g2 v0 2) + v1) (hs_ln g2 ((hs_R g2 v0 0) - 1)) = true then
    if ((hs_I g2 ((hs_R g2 v0 0) - 1) ((hs_I g2 v0 2) + v1).toNatClampNeg) &&& (512 : Int32)) = 0 then (
      some ((0 : Int32), g2)
    ) else (
      some ((1 : Int32), g2)
    )
    else none else none else none else none
  )
  else none
abbrev rmX7_beginsBlock : Room := { frames := 1, cells := 0, slots := 0, locals := 21 }
set_option maxHeartbeats 4000000 in
set_option maxRecDepth 100000 in
theorem ctX7_beginsBlock (l : Launch) (B : Nat) (D : va_G) (E : Nat → ClassId) (v0 : Nat) (v1 : Int32) (g : hs_S) (o : Int32 × hs_S) (hf : fX7_beginsBlock v0 v1 g = some o) : Met l yX7_beginsBlock wcX7_beginsBlock rmX7_beginsBlock (hs_Pc B D E g [.ref (B + v0), .int v1]) (hs_Qi B D E o) (0) (0) (hs_F B) := by
  refine Met.ofW (cc := cX7_beginsBlock) (maxL := 2) (ret := (some .boolean)) (by decide) rfl ?_
  intro p e s m args below meth c s₁ Bd hml hv
  obtain ⟨rfl, hP, hK⟩ := hv
  have hx := Bd.exec
  have hb := Bd.bytes
  have hr := Bd.returns
  have hts := atoms_spec (ws := wcX7_beginsBlock) Bd.pre
  have hown : s.vm.findClass RX7 = some m.cls := findClass_of_methodNamed Bd.named
  have hlocks := Bd.notSynchronized
  have hS : hs_Sx B s.heap s.heap [] := va_S.rf
  have hX : hs_cx cX7_beginsBlock (some .boolean) 2 RX7 wcX7_beginsBlock p s m (List.toArray [.ref (B + v0), .int v1]) meth c D E := ⟨hx, hb, hr, hml, hown, hts, hlocks, hK⟩
  have hl := lv_entry ([.ref (B + v0), .int v1]) (n := 2) (Nat.le_of_ble_eq_true rfl)
  rw [lg_entry_eq]
  generalize (lg_sl ([.ref (B + v0), .int v1]) ++ List.replicate (2 - (lg_sl ([.ref (B + v0), .int v1])).length) Slot.unset).toArray = ls at hl ⊢
  have hl : lv_has ls 2 [(0, .ref (B + v0)), (1, .int v1)] := hl
  have hP : hs_P B D E g s.heap := hP
  unfold fX7_beginsBlock at hf
  refine lv_aload_n hx hb dX7_beginsBlock_0 rfl (lv_at hl 0 rfl) ?_
  refine lv_iload_n hx hb dX7_beginsBlock_1 rfl (lv_at hl 1 rfl) ?_
  obtain ⟨h1, hf⟩ := hs_ck hf
  obtain ⟨r3, g2, h4, hf⟩ := hs_bd_some hf
  refine hs_calli (va_runV (As := [.int v1]) (rest := []) ⟨hx, hb, hml, hown, hts⟩ (ctX7_hasPlace l B D E v0 v1 g _ h4) (cwV 1 hts (hs_gV (fun _ h => List.mem_cons_of_mem _ h) wq252 wq253 wq254 wq43 wq255) rfl rfl rfl (by decide +kernel) ⟨Nat.le_of_ble_eq_true rfl, Nat.le_of_ble_eq_true rfl⟩) (hs_preV (r := (RX7, TX7, 11)) hP hK h1 (by decide) rfl) rfl rfl hl.1 rfl (lv_room (Nat.le_of_ble_eq_true rfl)) dX7_beginsBlock_2 ⟨(Nat.le_of_ble_eq_true rfl), (Nat.le_of_ble_eq_true rfl)⟩) hS (fun H locs hP hS => ?_)
  refine lv_if_eq (tgt := 30) hx hb dX7_beginsBlock_5 (by decide) (fun hc => ?_) (fun hc => ?_)
  · replace hf := hs_t hf hc
    refine lv_iconst (v := 0) hx hb dX7_beginsBlock_30 (by decide) ?_
    exact hs_iret hx hb hr hlocks (hs_01_nar (rfl)) hK hP hS hf dX7_beginsBlock_31
  · replace hf := hs_f hf hc
    refine lv_aload_n hx hb dX7_beginsBlock_8 rfl (lv_at hl 0 rfl) ?_
    obtain ⟨h5, hf⟩ := hs_ck hf
    obtain ⟨h6, hf⟩ := hs_ck hf
    refine hs_getr (C := RX7) (T := TX7) (N := 11) hx hb hts (fun w h => List.mem_cons_of_mem _ (inlX7 w h)) hown hK.1 hP h5 (by decide) rfl 0 (by decide) (hts _ (List.mem_cons_of_mem _ wq52)) (fun _ h => h) rfl h6 dX7_beginsBlock_9 ?_
    refine lv_aload_n hx hb dX7_beginsBlock_12 rfl (lv_at hl 0 rfl) ?_
    refine hs_geti (C := RX7) (T := TX7) (N := 11) hx hb hts (fun w h => List.mem_cons_of_mem _ (inlX7 w h)) hown hK.1 hP h5 (by decide) rfl 2 (by decide) (hts _ (List.mem_cons_of_mem _ wq204)) (fun _ h => h) rfl dX7_beginsBlock_13 ?_
    refine lv_iload_n hx hb dX7_beginsBlock_16 rfl (lv_at hl 1 rfl) ?_
    refine lv_iadd hx hb dX7_beginsBlock_17 ?_
    obtain ⟨h7, hf⟩ := hs_ck hf
    obtain ⟨h8, hf⟩ := hs_ck hf
    refine hs_iald hx hb hK.1 hP h7 h8 dX7_beginsBlock_18 ?_
    refine lv_sipush (v := 512) hx hb dX7_beginsBlock_19 (by decide) ?_
    refine lv_iand hx hb dX7_beginsBlock_22 ?_
    refine lv_if_eq (tgt := 30) hx hb dX7_beginsBlock_23 (by decide) (fun hc => ?_) (fun hc => ?_)
    · replace hf := hs_t hf hc
      refine lv_iconst (v := 0) hx hb dX7_beginsBlock_30 (by decide) ?_
      exact hs_iret hx hb hr hlocks (hs_01_nar (rfl)) hK hP hS hf dX7_beginsBlock_31
    · replace hf := hs_f hf hc
      refine lv_iconst (v := 1) hx hb dX7_beginsBlock_26 (by decide) ?_
      refine lv_goto (tgt := 31) hx hb dX7_beginsBlock_27 (by decide) ?_
      exact hs_iret hx hb hr hlocks (hs_01_nar (rfl)) hK hP hS hf dX7_beginsBlock_31

theorem dX2_markBlocks_0 : decode cX2_markBlocks 0 = .ok (.aload_n 1, 1) := by decide +kernel
theorem dX2_markBlocks_1 : decode cX2_markBlocks 1 = .ok (.iconst 0, 1) := by decide +kernel
theorem dX2_markBlocks_2 : decode cX2_markBlocks 2 = .ok (.sipush 512, 3) := by decide +kernel
theorem dX2_markBlocks_5 : decode cX2_markBlocks 5 = .ok (.invokevirtual 101, 3) := by decide +kernel
theorem dX2_markBlocks_8 : decode cX2_markBlocks 8 = .ok (.iconst 0, 1) := by decide +kernel
theorem dX2_markBlocks_9 : decode cX2_markBlocks 9 = .ok (.istore_n 2, 1) := by decide +kernel
theorem dX2_markBlocks_10 : decode cX2_markBlocks 10 = .ok (.iload_n 2, 1) := by decide +kernel
theorem dX2_markBlocks_11 : decode cX2_markBlocks 11 = .ok (.aload_n 1, 1) := by decide +kernel
theorem dX2_markBlocks_12 : decode cX2_markBlocks 12 = .ok (.getfield 59, 3) := by decide +kernel
theorem dX2_markBlocks_15 : decode cX2_markBlocks 15 = .ok (.if_icmp .ge 80, 3) := by decide +kernel
theorem dX2_markBlocks_18 : decode cX2_markBlocks 18 = .ok (.aload_n 1, 1) := by decide +kernel
theorem dX2_markBlocks_19 : decode cX2_markBlocks 19 = .ok (.iload_n 2, 1) := by decide +kernel
theorem dX2_markBlocks_20 : decode cX2_markBlocks 20 = .ok (.invokevirtual 125, 3) := by decide +kernel
theorem dX2_markBlocks_23 : decode cX2_markBlocks 23 = .ok (.ifCond .eq 15, 3) := by decide +kernel
theorem dX2_markBlocks_26 : decode cX2_markBlocks 26 = .ok (.aload_n 1, 1) := by decide +kernel
theorem dX2_markBlocks_27 : decode cX2_markBlocks 27 = .ok (.aload_n 1, 1) := by decide +kernel
theorem dX2_markBlocks_28 : decode cX2_markBlocks 28 = .ok (.iload_n 2, 1) := by decide +kernel
theorem dX2_markBlocks_29 : decode cX2_markBlocks 29 = .ok (.invokevirtual 128, 3) := by decide +kernel
theorem dX2_markBlocks_32 : decode cX2_markBlocks 32 = .ok (.sipush 512, 3) := by decide +kernel
theorem dX2_markBlocks_35 : decode cX2_markBlocks 35 = .ok (.invokevirtual 101, 3) := by decide +kernel
theorem dX2_markBlocks_38 : decode cX2_markBlocks 38 = .ok (.aload_n 1, 1) := by decide +kernel
theorem dX2_markBlocks_39 : decode cX2_markBlocks 39 = .ok (.iload_n 2, 1) := by decide +kernel
theorem dX2_markBlocks_40 : decode cX2_markBlocks 40 = .ok (.invokevirtual 118, 3) := by decide +kernel
theorem dX2_markBlocks_43 : decode cX2_markBlocks 43 = .ok (.ifCond .eq 18, 3) := by decide +kernel
theorem dX2_markBlocks_46 : decode cX2_markBlocks 46 = .ok (.aload_n 1, 1) := by decide +kernel
theorem dX2_markBlocks_47 : decode cX2_markBlocks 47 = .ok (.iload_n 2, 1) := by decide +kernel
theorem dX2_markBlocks_48 : decode cX2_markBlocks 48 = .ok (.invokevirtual 105, 3) := by decide +kernel
theorem dX2_markBlocks_51 : decode cX2_markBlocks 51 = .ok (.invokestatic 131, 3) := by decide +kernel
theorem dX2_markBlocks_54 : decode cX2_markBlocks 54 = .ok (.ifCond .eq 7, 3) := by decide +kernel
theorem dX2_markBlocks_57 : decode cX2_markBlocks 57 = .ok (.iconst 1, 1) := by decide +kernel
theorem dX2_markBlocks_58 : decode cX2_markBlocks 58 = .ok (.goto 4, 3) := by decide +kernel
theorem dX2_markBlocks_61 : decode cX2_markBlocks 61 = .ok (.iconst 0, 1) := by decide +kernel
theorem dX2_markBlocks_62 : decode cX2_markBlocks 62 = .ok (.istore_n 3, 1) := by decide +kernel
theorem dX2_markBlocks_63 : decode cX2_markBlocks 63 = .ok (.iload_n 3, 1) := by decide +kernel
theorem dX2_markBlocks_64 : decode cX2_markBlocks 64 = .ok (.ifCond .ne 11, 3) := by decide +kernel
theorem dX2_markBlocks_67 : decode cX2_markBlocks 67 = .ok (.aload_n 1, 1) := by decide +kernel
theorem dX2_markBlocks_68 : decode cX2_markBlocks 68 = .ok (.iload_n 2, 1) := by decide +kernel
theorem dX2_markBlocks_69 : decode cX2_markBlocks 69 = .ok (.invokevirtual 125, 3) := by decide +kernel
theorem dX2_markBlocks_72 : decode cX2_markBlocks 72 = .ok (.ifCond .eq 17, 3) := by decide +kernel
theorem dX2_markBlocks_75 : decode cX2_markBlocks 75 = .ok (.aload_n 1, 1) := by decide +kernel
theorem dX2_markBlocks_76 : decode cX2_markBlocks 76 = .ok (.iload_n 2, 1) := by decide +kernel
theorem dX2_markBlocks_77 : decode cX2_markBlocks 77 = .ok (.aload_n 1, 1) := by decide +kernel
theorem dX2_markBlocks_78 : decode cX2_markBlocks 78 = .ok (.iload_n 2, 1) := by decide +kernel
theorem dX2_markBlocks_79 : decode cX2_markBlocks 79 = .ok (.invokevirtual 94, 3) := by decide +kernel
theorem dX2_markBlocks_82 : decode cX2_markBlocks 82 = .ok (.iadd, 1) := by decide +kernel
theorem dX2_markBlocks_83 : decode cX2_markBlocks 83 = .ok (.sipush 512, 3) := by decide +kernel
theorem dX2_markBlocks_86 : decode cX2_markBlocks 86 = .ok (.invokevirtual 101, 3) := by decide +kernel
theorem dX2_markBlocks_89 : decode cX2_markBlocks 89 = .ok (.iinc 2 1, 3) := by decide +kernel
theorem dX2_markBlocks_92 : decode cX2_markBlocks 92 = .ok (.goto (-82), 3) := by decide +kernel
theorem dX2_markBlocks_95 : decode cX2_markBlocks 95 = .ok (.iconst 0, 1) := by decide +kernel
theorem dX2_markBlocks_96 : decode cX2_markBlocks 96 = .ok (.istore_n 2, 1) := by decide +kernel
theorem dX2_markBlocks_97 : decode cX2_markBlocks 97 = .ok (.iload_n 2, 1) := by decide +kernel
theorem dX2_markBlocks_98 : decode cX2_markBlocks 98 = .ok (.aload_n 1, 1) := by decide +kernel
theorem dX2_markBlocks_99 : decode cX2_markBlocks 99 = .ok (.getfield 47, 3) := by decide +kernel
theorem dX2_markBlocks_102 : decode cX2_markBlocks 102 = .ok (.if_icmp .ge 22, 3) := by decide +kernel
theorem dX2_markBlocks_105 : decode cX2_markBlocks 105 = .ok (.aload_n 1, 1) := by decide +kernel
theorem dX2_markBlocks_106 : decode cX2_markBlocks 106 = .ok (.aload_n 1, 1) := by decide +kernel
theorem dX2_markBlocks_107 : decode cX2_markBlocks 107 = .ok (.iload_n 2, 1) := by decide +kernel
theorem dX2_markBlocks_108 : decode cX2_markBlocks 108 = .ok (.iconst 2, 1) := by decide +kernel
theorem dX2_markBlocks_109 : decode cX2_markBlocks 109 = .ok (.invokevirtual 134, 3) := by decide +kernel
theorem dX2_markBlocks_112 : decode cX2_markBlocks 112 = .ok (.sipush 512, 3) := by decide +kernel
theorem dX2_markBlocks_115 : decode cX2_markBlocks 115 = .ok (.invokevirtual 101, 3) := by decide +kernel
theorem dX2_markBlocks_118 : decode cX2_markBlocks 118 = .ok (.iinc 2 1, 3) := by decide +kernel
theorem dX2_markBlocks_121 : decode cX2_markBlocks 121 = .ok (.goto (-24), 3) := by decide +kernel
theorem dX2_markBlocks_124 : decode cX2_markBlocks 124 = .ok (.iconst 0, 1) := by decide +kernel
theorem dX2_markBlocks_125 : decode cX2_markBlocks 125 = .ok (.istore_n 2, 1) := by decide +kernel
theorem dX2_markBlocks_126 : decode cX2_markBlocks 126 = .ok (.iload_n 2, 1) := by decide +kernel
theorem dX2_markBlocks_127 : decode cX2_markBlocks 127 = .ok (.aload_n 1, 1) := by decide +kernel
theorem dX2_markBlocks_128 : decode cX2_markBlocks 128 = .ok (.getfield 59, 3) := by decide +kernel
theorem dX2_markBlocks_131 : decode cX2_markBlocks 131 = .ok (.if_icmp .ge 31, 3) := by decide +kernel
theorem dX2_markBlocks_134 : decode cX2_markBlocks 134 = .ok (.aload_n 1, 1) := by decide +kernel
theorem dX2_markBlocks_135 : decode cX2_markBlocks 135 = .ok (.dup, 1) := by decide +kernel
theorem dX2_markBlocks_136 : decode cX2_markBlocks 136 = .ok (.getfield 138, 3) := by decide +kernel
theorem dX2_markBlocks_139 : decode cX2_markBlocks 139 = .ok (.aload_n 1, 1) := by decide +kernel
theorem dX2_markBlocks_140 : decode cX2_markBlocks 140 = .ok (.iload_n 2, 1) := by decide +kernel
theorem dX2_markBlocks_141 : decode cX2_markBlocks 141 = .ok (.invokevirtual 141, 3) := by decide +kernel
theorem dX2_markBlocks_144 : decode cX2_markBlocks 144 = .ok (.ifCond .eq 7, 3) := by decide +kernel
theorem dX2_markBlocks_147 : decode cX2_markBlocks 147 = .ok (.iconst 1, 1) := by decide +kernel
theorem dX2_markBlocks_148 : decode cX2_markBlocks 148 = .ok (.goto 4, 3) := by decide +kernel
theorem dX2_markBlocks_151 : decode cX2_markBlocks 151 = .ok (.iconst 0, 1) := by decide +kernel
theorem dX2_markBlocks_152 : decode cX2_markBlocks 152 = .ok (.iadd, 1) := by decide +kernel
theorem dX2_markBlocks_153 : decode cX2_markBlocks 153 = .ok (.putfield 138, 3) := by decide +kernel
theorem dX2_markBlocks_156 : decode cX2_markBlocks 156 = .ok (.iinc 2 1, 3) := by decide +kernel
theorem dX2_markBlocks_159 : decode cX2_markBlocks 159 = .ok (.goto (-33), 3) := by decide +kernel
theorem dX2_markBlocks_162 : decode cX2_markBlocks 162 = .ok (.return_, 1) := by decide +kernel
abbrev wcX2_markBlocks : List Cond := .code yX2_markBlocks cX2_markBlocks 4 none :: wsL_law
def jX2_markBlocks_89 (rec : Int32 → hs_S → Option (hs_S)) (v1 : Nat) (v2 : Int32) (g : hs_S) : Option (hs_S) :=
  rec (v2 + (1 : Int32)) g
def jX2_markBlocks_75 (rec : Int32 → hs_S → Option (hs_S)) (v1 : Nat) (v2 : Int32) (g : hs_S) : Option (hs_S) :=
  if hs_kd g v1 = 6 then
  hs_bd (fX7_sizeAt v1 v2 g) fun r15 g14 =>
  if hs_kd g14 v1 = 6 then
  hs_bv (fX7_mark v1 (v2 + r15) (512 : Int32) g14) fun g18 =>
  jX2_markBlocks_89 rec v1 v2 g18
  else none else none
def jX2_markBlocks_62 (rec : Int32 → hs_S → Option (hs_S)) (v1 : Nat) (v2 : Int32) (s0 : Int32) (g : hs_S) : Option (hs_S) :=
  if s0 = 0 then (
    if hs_kd g v1 = 6 then
    hs_bd (fX7_jumpsAt v1 v2 g) fun r23 g22 =>
    if r23 = 0 then (
      jX2_markBlocks_89 rec v1 v2 g22
    ) else (
      jX2_markBlocks_75 rec v1 v2 g22
    )
    else none
  ) else (
    jX2_markBlocks_75 rec v1 v2 g
  )
def jX2_markBlocks_61 (rec : Int32 → hs_S → Option (hs_S)) (v1 : Nat) (v2 : Int32) (g : hs_S) : Option (hs_S) :=
  jX2_markBlocks_62 rec v1 v2 (0 : Int32) g
def jX2_markBlocks_38 (rec : Int32 → hs_S → Option (hs_S)) (v1 : Nat) (v2 : Int32) (g : hs_S) : Option (hs_S) :=
  if hs_kd g v1 = 6 then
  hs_bd (fX7_begins v1 v2 g) fun r11 g10 =>
  if r11 = 0 then (
    jX2_markBlocks_61 rec v1 v2 g10
  ) else (
    if hs_kd g10 v1 = 6 then
    hs_bd (fX7_valueAt v1 v2 g10) fun r27 g26 =>
    hs_bd (fX4_endsWay r27 g26) fun r30 g29 =>
    if r30 = 0 then (
      jX2_markBlocks_61 rec v1 v2 g29
    ) else (
      jX2_markBlocks_62 rec v1 v2 (1 : Int32) g29
    )
    else none
  )
  else none
def lX2_markBlocks_10 : Nat → Nat → Int32 → hs_S → Option (hs_S)
  | 0, _, _, _ => none
  | n + 1, v1, v2, g =>
    if hs_kd g v1 = 6 then
    if (hs_I g v1 3) ≤ v2 then (
      some g
    ) else (
      hs_bd (fX7_jumpsAt v1 v2 g) fun r7 g6 =>
      if r7 = 0 then (
        jX2_markBlocks_38 (fun y0 g => lX2_markBlocks_10 n v1 y0 g) v1 v2 g6
      ) else (
        if hs_kd g6 v1 = 6 then
        hs_bd (fX7_targetOf v1 v2 g6) fun r34 g33 =>
        if hs_kd g33 v1 = 6 then
        hs_bv (fX7_mark v1 r34 (512 : Int32) g33) fun g37 =>
        jX2_markBlocks_38 (fun y0 g => lX2_markBlocks_10 n v1 y0 g) v1 v2 g37
        else none else none
      )
    )
    else none
theorem lX2_markBlocks_10_s (n : Nat) (v1 : Nat) (v2 : Int32) (g : hs_S) : lX2_markBlocks_10 (n + 1) v1 v2 g =
    if hs_kd g v1 = 6 then
    if (hs_I g v1 3) ≤ v2 then (
      some g
    ) else (
      hs_bd (fX7_jumpsAt v1 v2 g) fun r7 g6 =>
      if r7 = 0 then (
        jX2_markBlocks_38 (fun y0 g => lX2_markBlocks_10 n v1 y0 g) v1 v2 g6
      ) else (
        if hs_kd g6 v1 = 6 then
        hs_bd (fX7_targetOf v1 v2 g6) fun r34 g33 =>
        if hs_kd g33 v1 = 6 then
        hs_bv (fX7_mark v1 r34 (512 : Int32) g33) fun g37 =>
        jX2_markBlocks_38 (fun y0 g => lX2_markBlocks_10 n v1 y0 g) v1 v2 g37
        else none else none
      )
    )
    else none := rfl
def lX2_markBlocks_97 : Nat → Nat → Int32 → hs_S → Option (hs_S)
  | 0, _, _, _ => none
  | n + 1, v1, v2, g =>
    if hs_kd g v1 = 6 then
    if (hs_I g v1 6) ≤ v2 then (
      some g
    ) else (
      hs_bd (fX7_handlerNumber v1 v2 (2 : Int32) g) fun r45 g44 =>
      if hs_kd g44 v1 = 6 then
      hs_bv (fX7_mark v1 r45 (512 : Int32) g44) fun g48 =>
      lX2_markBlocks_97 n v1 (v2 + (1 : Int32)) g48
      else none
    )
    else none
theorem lX2_markBlocks_97_s (n : Nat) (v1 : Nat) (v2 : Int32) (g : hs_S) : lX2_markBlocks_97 (n + 1) v1 v2 g =
    if hs_kd g v1 = 6 then
    if (hs_I g v1 6) ≤ v2 then (
      some g
    ) else (
      hs_bd (fX7_handlerNumber v1 v2 (2 : Int32) g) fun r45 g44 =>
      if hs_kd g44 v1 = 6 then
      hs_bv (fX7_mark v1 r45 (512 : Int32) g44) fun g48 =>
      lX2_markBlocks_97 n v1 (v2 + (1 : Int32)) g48
      else none
    )
    else none := rfl
def jX2_markBlocks_152 (rec : Int32 → hs_S → Option (hs_S)) (v1 : Nat) (v2 : Int32) (s0 : Int32) (s1 : Int32) (s2 : Nat) (g : hs_S) : Option (hs_S) :=
  if hs_kd g s2 = 6 then
  rec (v2 + (1 : Int32)) (hs_wI g s2 7 (s1 + s0))
  else none
def lX2_markBlocks_126 : Nat → Nat → Int32 → hs_S → Option (hs_S)
  | 0, _, _, _ => none
  | n + 1, v1, v2, g =>
    if hs_kd g v1 = 6 then
    if (hs_I g v1 3) ≤ v2 then (
      some g
    ) else (
      hs_bd (fX7_beginsBlock v1 v2 g) fun r56 g55 =>
      if r56 = 0 then (
        jX2_markBlocks_152 (fun y0 g => lX2_markBlocks_126 n v1 y0 g) v1 v2 (0 : Int32) (hs_I g v1 7) v1 g55
      ) else (
        jX2_markBlocks_152 (fun y0 g => lX2_markBlocks_126 n v1 y0 g) v1 v2 (1 : Int32) (hs_I g v1 7) v1 g55
      )
    )
    else none
theorem lX2_markBlocks_126_s (n : Nat) (v1 : Nat) (v2 : Int32) (g : hs_S) : lX2_markBlocks_126 (n + 1) v1 v2 g =
    if hs_kd g v1 = 6 then
    if (hs_I g v1 3) ≤ v2 then (
      some g
    ) else (
      hs_bd (fX7_beginsBlock v1 v2 g) fun r56 g55 =>
      if r56 = 0 then (
        jX2_markBlocks_152 (fun y0 g => lX2_markBlocks_126 n v1 y0 g) v1 v2 (0 : Int32) (hs_I g v1 7) v1 g55
      ) else (
        jX2_markBlocks_152 (fun y0 g => lX2_markBlocks_126 n v1 y0 g) v1 v2 (1 : Int32) (hs_I g v1 7) v1 g55
      )
    )
    else none := rfl
def fX2_markBlocks (v0 : Nat) (v1 : Nat) (g : hs_S) : Option (hs_S) :=
  if hs_kd g v1 = 6 then
  hs_bv (fX7_mark v1 (0 : Int32) (512 : Int32) g) fun g2 =>
  hs_bv (lX2_markBlocks_10 hs_N v1 (0 : Int32) g2) fun g41 =>
  hs_bv (lX2_markBlocks_97 hs_N v1 (0 : Int32) g41) fun g52 =>
  hs_bv (lX2_markBlocks_126 hs_N v1 (0 : Int32) g52) fun g60 =>
  some g60
  else none
abbrev rmX2_markBlocks : Room := { frames := 3, cells := 0, slots := 0, locals := 64 }
set_option maxHeartbeats 4000000 in
set_option maxRecDepth 100000 in
theorem wX2_markBlocks_j89 {p : Program} {l : Launch} {e : Env} {s : State} {m : MethodId} {args : Array Value} {below : List Frame} {meth : Method} {c : Code} {B : Nat} {D : va_G} {E : Nat → ClassId} (hX : hs_cx cX2_markBlocks none 4 RX2 wcX2_markBlocks p s m args meth c D E) {Q : State → Prop} {o : hs_S} {rec : Int32 → hs_S → Option (hs_S)} {v1 : Nat} {v2 : Int32}  (hrec : ∀ (y0 : Int32) (g : hs_S) (H : Heap) (locs : List Loc) (ls : Array Slot), rec y0 g = some o → hs_P B D E g H → hs_Sx B s.heap H locs → lv_has ls 4 [(1, .ref (B + v1)), (2, .int y0)] → W p l e rmX2_markBlocks s m args below meth c H locs 0 0 Q (F0 m 10 ls [])) (hex0 : ∀ (H : Heap) (locs : List Loc) (ls : Array Slot), hs_P B D E (o) H → hs_Sx B s.heap H locs → lv_has ls 4 [(1, .ref (B + v1))] → W p l e rmX2_markBlocks s m args below meth c H locs 0 0 Q (F0 m 95 ls [])) {g : hs_S} {H : Heap} {locs : List Loc} {ls : Array Slot} (hf : jX2_markBlocks_89 rec v1 v2 g = some o) (hP : hs_P B D E g H) (hS : hs_Sx B s.heap H locs) (hl : lv_has ls 4 [(1, .ref (B + v1)), (2, .int v2)]) : W p l e rmX2_markBlocks s m args below meth c H locs 0 0 Q (F0 m 89 ls []) := by
  obtain ⟨hx, hb, hr, hml, hown, hts, hlocks, hK⟩ := id hX
  unfold jX2_markBlocks_89 at hf
  refine lv_iinc (v := (v2 + (1 : Int32))) (lv' := [(2, .int (v2 + (1 : Int32))), (1, .ref (B + v1))]) hx hb dX2_markBlocks_89 hl (k := 1) rfl (by rfl) (by decide) rfl (fun ls hl => ?_)
  refine lv_goto (tgt := 10) hx hb dX2_markBlocks_92 (by decide) ?_
  exact hrec _ _ _ _ _ hf hP hS (lv_sub hl [1, 0] rfl)

set_option maxHeartbeats 4000000 in
set_option maxRecDepth 100000 in
theorem wX2_markBlocks_j75 {p : Program} {l : Launch} {e : Env} {s : State} {m : MethodId} {args : Array Value} {below : List Frame} {meth : Method} {c : Code} {B : Nat} {D : va_G} {E : Nat → ClassId} (hX : hs_cx cX2_markBlocks none 4 RX2 wcX2_markBlocks p s m args meth c D E) {Q : State → Prop} {o : hs_S} {rec : Int32 → hs_S → Option (hs_S)} {v1 : Nat} {v2 : Int32}  (hrec : ∀ (y0 : Int32) (g : hs_S) (H : Heap) (locs : List Loc) (ls : Array Slot), rec y0 g = some o → hs_P B D E g H → hs_Sx B s.heap H locs → lv_has ls 4 [(1, .ref (B + v1)), (2, .int y0)] → W p l e rmX2_markBlocks s m args below meth c H locs 0 0 Q (F0 m 10 ls [])) (hex0 : ∀ (H : Heap) (locs : List Loc) (ls : Array Slot), hs_P B D E (o) H → hs_Sx B s.heap H locs → lv_has ls 4 [(1, .ref (B + v1))] → W p l e rmX2_markBlocks s m args below meth c H locs 0 0 Q (F0 m 95 ls [])) {g : hs_S} {H : Heap} {locs : List Loc} {ls : Array Slot} (hf : jX2_markBlocks_75 rec v1 v2 g = some o) (hP : hs_P B D E g H) (hS : hs_Sx B s.heap H locs) (hl : lv_has ls 4 [(1, .ref (B + v1)), (2, .int v2)]) : W p l e rmX2_markBlocks s m args below meth c H locs 0 0 Q (F0 m 75 ls []) := by
  obtain ⟨hx, hb, hr, hml, hown, hts, hlocks, hK⟩ := id hX
  unfold jX2_markBlocks_75 at hf
  refine lv_aload_n hx hb dX2_markBlocks_75 rfl (lv_at hl 0 rfl) ?_
  refine lv_iload_n hx hb dX2_markBlocks_76 rfl (lv_at hl 1 rfl) ?_
  refine lv_aload_n hx hb dX2_markBlocks_77 rfl (lv_at hl 0 rfl) ?_
  refine lv_iload_n hx hb dX2_markBlocks_78 rfl (lv_at hl 1 rfl) ?_
  obtain ⟨h13, hf⟩ := hs_ck hf
  obtain ⟨r15, g14, h16, hf⟩ := hs_bd_some hf
  refine hs_calli (va_runV (As := [.int v2]) (rest := [.int v2, .ref (B + v1)]) ⟨hx, hb, hml, hown, hts⟩ (ctX7_sizeAt l B D E v1 v2 g _ h16) (cwV 1 hts (hs_gV (fun _ h => List.mem_cons_of_mem _ h) wq244 wq245 wq246 wq43 wq247) rfl rfl rfl (by decide +kernel) ⟨Nat.le_of_ble_eq_true rfl, Nat.le_of_ble_eq_true rfl⟩) (hs_preV (r := (RX7, TX7, 11)) hP hK h13 (by decide) rfl) rfl rfl hl.1 rfl (lv_room (Nat.le_of_ble_eq_true rfl)) dX2_markBlocks_79 ⟨(Nat.le_of_ble_eq_true rfl), (Nat.le_of_ble_eq_true rfl)⟩) hS (fun H locs hP hS => ?_)
  refine lv_iadd hx hb dX2_markBlocks_82 ?_
  refine lv_sipush (v := 512) hx hb dX2_markBlocks_83 (by decide) ?_
  obtain ⟨h17, hf⟩ := hs_ck hf
  obtain ⟨g18, h20, hf⟩ := hs_bv_some hf
  refine hs_callv (va_runV (As := [.int (v2 + r15), .int (512 : Int32)]) (rest := []) ⟨hx, hb, hml, hown, hts⟩ (ctX7_mark l B D E v1 (v2 + r15) (512 : Int32) g14 _ h20) (cwV 2 hts (hs_gV (fun _ h => List.mem_cons_of_mem _ h) wq280 wq281 wq282 wq43 wq283) rfl rfl rfl (by decide +kernel) ⟨Nat.le_of_ble_eq_true rfl, Nat.le_of_ble_eq_true rfl⟩) (hs_preV (r := (RX7, TX7, 11)) hP hK h17 (by decide) rfl) rfl rfl hl.1 rfl (lv_room (Nat.le_of_ble_eq_true rfl)) dX2_markBlocks_86 ⟨(Nat.le_of_ble_eq_true rfl), (Nat.le_of_ble_eq_true rfl)⟩) hS (fun H locs hP hS => ?_)
  exact wX2_markBlocks_j89 hX hrec hex0 hf hP hS (lv_sub hl [0, 1] rfl)

set_option maxHeartbeats 4000000 in
set_option maxRecDepth 100000 in
theorem wX2_markBlocks_j62 {p : Program} {l : Launch} {e : Env} {s : State} {m : MethodId} {args : Array Value} {below : List Frame} {meth : Method} {c : Code} {B : Nat} {D : va_G} {E : Nat → ClassId} (hX : hs_cx cX2_markBlocks none 4 RX2 wcX2_markBlocks p s m args meth c D E) {Q : State → Prop} {o : hs_S} {rec : Int32 → hs_S → Option (hs_S)} {v1 : Nat} {v2 : Int32} {s0 : Int32}  (hrec : ∀ (y0 : Int32) (g : hs_S) (H : Heap) (locs : List Loc) (ls : Array Slot), rec y0 g = some o → hs_P B D E g H → hs_Sx B s.heap H locs → lv_has ls 4 [(1, .ref (B + v1)), (2, .int y0)] → W p l e rmX2_markBlocks s m args below meth c H locs 0 0 Q (F0 m 10 ls [])) (hex0 : ∀ (H : Heap) (locs : List Loc) (ls : Array Slot), hs_P B D E (o) H → hs_Sx B s.heap H locs → lv_has ls 4 [(1, .ref (B + v1))] → W p l e rmX2_markBlocks s m args below meth c H locs 0 0 Q (F0 m 95 ls [])) {g : hs_S} {H : Heap} {locs : List Loc} {ls : Array Slot} (hf : jX2_markBlocks_62 rec v1 v2 s0 g = some o) (hP : hs_P B D E g H) (hS : hs_Sx B s.heap H locs) (hl : lv_has ls 4 [(1, .ref (B + v1)), (2, .int v2)]) : W p l e rmX2_markBlocks s m args below meth c H locs 0 0 Q (F0 m 62 ls [.int s0]) := by
  obtain ⟨hx, hb, hr, hml, hown, hts, hlocks, hK⟩ := id hX
  unfold jX2_markBlocks_62 at hf
  refine lv_istore_n (lv' := [(3, .int s0), (1, .ref (B + v1)), (2, .int v2)]) hx hb dX2_markBlocks_62 rfl hl (by decide) rfl (fun ls hl => ?_)
  refine lv_iload_n hx hb dX2_markBlocks_63 rfl (lv_at hl 0 rfl) ?_
  refine lv_if_ne (tgt := 75) hx hb dX2_markBlocks_64 (by decide) (fun hc => ?_) (fun hc => ?_)
  · replace hf := hs_f hf hc
    exact wX2_markBlocks_j75 hX hrec hex0 hf hP hS (lv_sub hl [1, 2] rfl)
  · replace hf := hs_t hf hc
    refine lv_aload_n hx hb dX2_markBlocks_67 rfl (lv_at hl 1 rfl) ?_
    refine lv_iload_n hx hb dX2_markBlocks_68 rfl (lv_at hl 2 rfl) ?_
    obtain ⟨h21, hf⟩ := hs_ck hf
    obtain ⟨r23, g22, h24, hf⟩ := hs_bd_some hf
    refine hs_calli (va_runV (As := [.int v2]) (rest := []) ⟨hx, hb, hml, hown, hts⟩ (ctX7_jumpsAt l B D E v1 v2 g _ h24) (cwV 1 hts (hs_gV (fun _ h => List.mem_cons_of_mem _ h) wq301 wq302 wq303 wq43 wq304) rfl rfl rfl (by decide +kernel) ⟨Nat.le_of_ble_eq_true rfl, Nat.le_of_ble_eq_true rfl⟩) (hs_preV (r := (RX7, TX7, 11)) hP hK h21 (by decide) rfl) rfl rfl hl.1 rfl (lv_room (Nat.le_of_ble_eq_true rfl)) dX2_markBlocks_69 ⟨(Nat.le_of_ble_eq_true rfl), (Nat.le_of_ble_eq_true rfl)⟩) hS (fun H locs hP hS => ?_)
    refine lv_if_eq (tgt := 89) hx hb dX2_markBlocks_72 (by decide) (fun hc => ?_) (fun hc => ?_)
    · replace hf := hs_t hf hc
      exact wX2_markBlocks_j89 hX hrec hex0 hf hP hS (lv_sub hl [1, 2] rfl)
    · replace hf := hs_f hf hc
      exact wX2_markBlocks_j75 hX hrec hex0 hf hP hS (lv_sub hl [1, 2] rfl)

set_option maxHeartbeats 4000000 in
set_option maxRecDepth 100000 in
theorem wX2_markBlocks_j61 {p : Program} {l : Launch} {e : Env} {s : State} {m : MethodId} {args : Array Value} {below : List Frame} {meth : Method} {c : Code} {B : Nat} {D : va_G} {E : Nat → ClassId} (hX : hs_cx cX2_markBlocks none 4 RX2 wcX2_markBlocks p s m args meth c D E) {Q : State → Prop} {o : hs_S} {rec : Int32 → hs_S → Option (hs_S)} {v1 : Nat} {v2 : Int32}  (hrec : ∀ (y0 : Int32) (g : hs_S) (H : Heap) (locs : List Loc) (ls : Array Slot), rec y0 g = some o → hs_P B D E g H → hs_Sx B s.heap H locs → lv_has ls 4 [(1, .ref (B + v1)), (2, .int y0)] → W p l e rmX2_markBlocks s m args below meth c H locs 0 0 Q (F0 m 10 ls [])) (hex0 : ∀ (H : Heap) (locs : List Loc) (ls : Array Slot), hs_P B D E (o) H → hs_Sx B s.heap H locs → lv_has ls 4 [(1, .ref (B + v1))] → W p l e rmX2_markBlocks s m args below meth c H locs 0 0 Q (F0 m 95 ls [])) {g : hs_S} {H : Heap} {locs : List Loc} {ls : Array Slot} (hf : jX2_markBlocks_61 rec v1 v2 g = some o) (hP : hs_P B D E g H) (hS : hs_Sx B s.heap H locs) (hl : lv_has ls 4 [(1, .ref (B + v1)), (2, .int v2)]) : W p l e rmX2_markBlocks s m args below meth c H locs 0 0 Q (F0 m 61 ls []) := by
  obtain ⟨hx, hb, hr, hml, hown, hts, hlocks, hK⟩ := id hX
  unfold jX2_markBlocks_61 at hf
  refine lv_iconst (v := 0) hx hb dX2_markBlocks_61 (by decide) ?_
  exact wX2_markBlocks_j62 hX hrec hex0 hf hP hS (lv_sub hl [0, 1] rfl)

set_option maxHeartbeats 4000000 in
set_option maxRecDepth 100000 in
theorem wX2_markBlocks_j38 {p : Program} {l : Launch} {e : Env} {s : State} {m : MethodId} {args : Array Value} {below : List Frame} {meth : Method} {c : Code} {B : Nat} {D : va_G} {E : Nat → ClassId} (hX : hs_cx cX2_markBlocks none 4 RX2 wcX2_markBlocks p s m args meth c D E) {Q : State → Prop} {o : hs_S} {rec : Int32 → hs_S → Option (hs_S)} {v1 : Nat} {v2 : Int32}  (hrec : ∀ (y0 : Int32) (g : hs_S) (H : Heap) (locs : List Loc) (ls : Array Slot), rec y0 g = some o → hs_P B D E g H → hs_Sx B s.heap H locs → lv_has ls 4 [(1, .ref (B + v1)), (2, .int y0)] → W p l e rmX2_markBlocks s m args below meth c H locs 0 0 Q (F0 m 10 ls [])) (hex0 : ∀ (H : Heap) (locs : List Loc) (ls : Array Slot), hs_P B D E (o) H → hs_Sx B s.heap H locs → lv_has ls 4 [(1, .ref (B + v1))] → W p l e rmX2_markBlocks s m args below meth c H locs 0 0 Q (F0 m 95 ls [])) {g : hs_S} {H : Heap} {locs : List Loc} {ls : Array Slot} (hf : jX2_markBlocks_38 rec v1 v2 g = some o) (hP : hs_P B D E g H) (hS : hs_Sx B s.heap H locs) (hl : lv_has ls 4 [(1, .ref (B + v1)), (2, .int v2)]) : W p l e rmX2_markBlocks s m args below meth c H locs 0 0 Q (F0 m 38 ls []) := by
  obtain ⟨hx, hb, hr, hml, hown, hts, hlocks, hK⟩ := id hX
  unfold jX2_markBlocks_38 at hf
  refine lv_aload_n hx hb dX2_markBlocks_38 rfl (lv_at hl 0 rfl) ?_
  refine lv_iload_n hx hb dX2_markBlocks_39 rfl (lv_at hl 1 rfl) ?_
  obtain ⟨h9, hf⟩ := hs_ck hf
  obtain ⟨r11, g10, h12, hf⟩ := hs_bd_some hf
  refine hs_calli (va_runV (As := [.int v2]) (rest := []) ⟨hx, hb, hml, hown, hts⟩ (ctX7_begins l B D E v1 v2 g _ h12) (cwV 1 hts (hs_gV (fun _ h => List.mem_cons_of_mem _ h) wq288 wq289 wq290 wq43 wq291) rfl rfl rfl (by decide +kernel) ⟨Nat.le_of_ble_eq_true rfl, Nat.le_of_ble_eq_true rfl⟩) (hs_preV (r := (RX7, TX7, 11)) hP hK h9 (by decide) rfl) rfl rfl hl.1 rfl (lv_room (Nat.le_of_ble_eq_true rfl)) dX2_markBlocks_40 ⟨(Nat.le_of_ble_eq_true rfl), (Nat.le_of_ble_eq_true rfl)⟩) hS (fun H locs hP hS => ?_)
  refine lv_if_eq (tgt := 61) hx hb dX2_markBlocks_43 (by decide) (fun hc => ?_) (fun hc => ?_)
  · replace hf := hs_t hf hc
    exact wX2_markBlocks_j61 hX hrec hex0 hf hP hS (lv_sub hl [0, 1] rfl)
  · replace hf := hs_f hf hc
    refine lv_aload_n hx hb dX2_markBlocks_46 rfl (lv_at hl 0 rfl) ?_
    refine lv_iload_n hx hb dX2_markBlocks_47 rfl (lv_at hl 1 rfl) ?_
    obtain ⟨h25, hf⟩ := hs_ck hf
    obtain ⟨r27, g26, h28, hf⟩ := hs_bd_some hf
    refine hs_calli (va_runV (As := [.int v2]) (rest := []) ⟨hx, hb, hml, hown, hts⟩ (ctX7_valueAt l B D E v1 v2 g10 _ h28) (cwV 1 hts (hs_gV (fun _ h => List.mem_cons_of_mem _ h) wq273 wq249 wq250 wq43 wq251) rfl rfl rfl (by decide +kernel) ⟨Nat.le_of_ble_eq_true rfl, Nat.le_of_ble_eq_true rfl⟩) (hs_preV (r := (RX7, TX7, 11)) hP hK h25 (by decide) rfl) rfl rfl hl.1 rfl (lv_room (Nat.le_of_ble_eq_true rfl)) dX2_markBlocks_48 ⟨(Nat.le_of_ble_eq_true rfl), (Nat.le_of_ble_eq_true rfl)⟩) hS (fun H locs hP hS => ?_)
    obtain ⟨r30, g29, h31, hf⟩ := hs_bd_some hf
    refine hs_calli (va_runS (As := [.int r27]) (rest := []) ⟨hx, hb, hml, hown, hts⟩ (ctX4_endsWay l B D E r27 g26 _ h31) (va_cwS 1 hts (hs_gS (fun _ h => List.mem_cons_of_mem _ h) wq318 wq319 wq258 wq320) rfl rfl rfl (by decide +kernel) ⟨Nat.le_of_ble_eq_true rfl, Nat.le_of_ble_eq_true rfl⟩) (hs_pre hP hK) rfl rfl hl.1 rfl (lv_room (Nat.le_of_ble_eq_true rfl)) dX2_markBlocks_51 ⟨(Nat.le_of_ble_eq_true rfl), (Nat.le_of_ble_eq_true rfl)⟩) hS (fun H locs hP hS => ?_)
    refine lv_if_eq (tgt := 61) hx hb dX2_markBlocks_54 (by decide) (fun hc => ?_) (fun hc => ?_)
    · replace hf := hs_t hf hc
      exact wX2_markBlocks_j61 hX hrec hex0 hf hP hS (lv_sub hl [0, 1] rfl)
    · replace hf := hs_f hf hc
      refine lv_iconst (v := 1) hx hb dX2_markBlocks_57 (by decide) ?_
      refine lv_goto (tgt := 62) hx hb dX2_markBlocks_58 (by decide) ?_
      exact wX2_markBlocks_j62 hX hrec hex0 hf hP hS (lv_sub hl [0, 1] rfl)

set_option maxHeartbeats 4000000 in
set_option maxRecDepth 100000 in
theorem wX2_markBlocks_10 {p : Program} {l : Launch} {e : Env} {s : State} {m : MethodId} {args : Array Value} {below : List Frame} {meth : Method} {c : Code} {B : Nat} {D : va_G} {E : Nat → ClassId} (hX : hs_cx cX2_markBlocks none 4 RX2 wcX2_markBlocks p s m args meth c D E) {Q : State → Prop} {o : hs_S} {v1 : Nat} (hex0 : ∀ (H : Heap) (locs : List Loc) (ls : Array Slot), hs_P B D E (o) H → hs_Sx B s.heap H locs → lv_has ls 4 [(1, .ref (B + v1))] → W p l e rmX2_markBlocks s m args below meth c H locs 0 0 Q (F0 m 95 ls [])) : ∀ (n : Nat) (v2 : Int32) (g : hs_S), lX2_markBlocks_10 n v1 v2 g = some o → ∀ (H : Heap) (locs : List Loc) (ls : Array Slot), hs_P B D E g H → hs_Sx B s.heap H locs → lv_has ls 4 [(1, .ref (B + v1)), (2, .int v2)] → W p l e rmX2_markBlocks s m args below meth c H locs 0 0 Q (F0 m 10 ls []) := by
  obtain ⟨hx, hb, hr, hml, hown, hts, hlocks, hK⟩ := id hX
  intro n
  induction n with
  | zero =>
    intro v2 g hf
    cases hf
  | succ n ih =>
    intro v2 g hf H locs ls hP hS hl
    replace hf := (lX2_markBlocks_10_s n v1 v2 g).symm.trans hf
    refine lv_iload_n hx hb dX2_markBlocks_10 rfl (lv_at hl 1 rfl) ?_
    refine lv_aload_n hx hb dX2_markBlocks_11 rfl (lv_at hl 0 rfl) ?_
    obtain ⟨h5, hf⟩ := hs_ck hf
    refine hs_geti (C := RX7) (T := TX7) (N := 11) hx hb hts (fun w h => List.mem_cons_of_mem _ (inlX7 w h)) hown hK.1 hP h5 (by decide) rfl 3 (by decide) (hts _ (List.mem_cons_of_mem _ wq219)) (fun _ h => h) rfl dX2_markBlocks_12 ?_
    refine lv_icmp_ge (tgt := 95) hx hb dX2_markBlocks_15 (by decide) (fun hc => ?_) (fun hc => ?_)
    · replace hf := hs_t hf hc
      obtain rfl := Option.some.inj hf
      exact hex0 _ _ _ hP hS (lv_sub hl [0] rfl)
    · replace hf := hs_f hf hc
      refine lv_aload_n hx hb dX2_markBlocks_18 rfl (lv_at hl 0 rfl) ?_
      refine lv_iload_n hx hb dX2_markBlocks_19 rfl (lv_at hl 1 rfl) ?_
      obtain ⟨r7, g6, h8, hf⟩ := hs_bd_some hf
      refine hs_calli (va_runV (As := [.int v2]) (rest := []) ⟨hx, hb, hml, hown, hts⟩ (ctX7_jumpsAt l B D E v1 v2 g _ h8) (cwV 1 hts (hs_gV (fun _ h => List.mem_cons_of_mem _ h) wq301 wq302 wq303 wq43 wq304) rfl rfl rfl (by decide +kernel) ⟨Nat.le_of_ble_eq_true rfl, Nat.le_of_ble_eq_true rfl⟩) (hs_preV (r := (RX7, TX7, 11)) hP hK h5 (by decide) rfl) rfl rfl hl.1 rfl (lv_room (Nat.le_of_ble_eq_true rfl)) dX2_markBlocks_20 ⟨(Nat.le_of_ble_eq_true rfl), (Nat.le_of_ble_eq_true rfl)⟩) hS (fun H locs hP hS => ?_)
      refine lv_if_eq (tgt := 38) hx hb dX2_markBlocks_23 (by decide) (fun hc => ?_) (fun hc => ?_)
      · replace hf := hs_t hf hc
        exact wX2_markBlocks_j38 hX (fun z0 g H locs ls hf hP hS hl => ih z0 g hf H locs ls hP hS hl) hex0 hf hP hS (lv_sub hl [0, 1] rfl)
      · replace hf := hs_f hf hc
        refine lv_aload_n hx hb dX2_markBlocks_26 rfl (lv_at hl 0 rfl) ?_
        refine lv_aload_n hx hb dX2_markBlocks_27 rfl (lv_at hl 0 rfl) ?_
        refine lv_iload_n hx hb dX2_markBlocks_28 rfl (lv_at hl 1 rfl) ?_
        obtain ⟨h32, hf⟩ := hs_ck hf
        obtain ⟨r34, g33, h35, hf⟩ := hs_bd_some hf
        refine hs_calli (va_runV (As := [.int v2]) (rest := [.ref (B + v1)]) ⟨hx, hb, hml, hown, hts⟩ (ctX7_targetOf l B D E v1 v2 g6 _ h35) (cwV 1 hts (hs_gV (fun _ h => List.mem_cons_of_mem _ h) wq309 wq310 wq311 wq43 wq312) rfl rfl rfl (by decide +kernel) ⟨Nat.le_of_ble_eq_true rfl, Nat.le_of_ble_eq_true rfl⟩) (hs_preV (r := (RX7, TX7, 11)) hP hK h32 (by decide) rfl) rfl rfl hl.1 rfl (lv_room (Nat.le_of_ble_eq_true rfl)) dX2_markBlocks_29 ⟨(Nat.le_of_ble_eq_true rfl), (Nat.le_of_ble_eq_true rfl)⟩) hS (fun H locs hP hS => ?_)
        refine lv_sipush (v := 512) hx hb dX2_markBlocks_32 (by decide) ?_
        obtain ⟨h36, hf⟩ := hs_ck hf
        obtain ⟨g37, h39, hf⟩ := hs_bv_some hf
        refine hs_callv (va_runV (As := [.int r34, .int (512 : Int32)]) (rest := []) ⟨hx, hb, hml, hown, hts⟩ (ctX7_mark l B D E v1 r34 (512 : Int32) g33 _ h39) (cwV 2 hts (hs_gV (fun _ h => List.mem_cons_of_mem _ h) wq280 wq281 wq282 wq43 wq283) rfl rfl rfl (by decide +kernel) ⟨Nat.le_of_ble_eq_true rfl, Nat.le_of_ble_eq_true rfl⟩) (hs_preV (r := (RX7, TX7, 11)) hP hK h36 (by decide) rfl) rfl rfl hl.1 rfl (lv_room (Nat.le_of_ble_eq_true rfl)) dX2_markBlocks_35 ⟨(Nat.le_of_ble_eq_true rfl), (Nat.le_of_ble_eq_true rfl)⟩) hS (fun H locs hP hS => ?_)
        exact wX2_markBlocks_j38 hX (fun z0 g H locs ls hf hP hS hl => ih z0 g hf H locs ls hP hS hl) hex0 hf hP hS (lv_sub hl [0, 1] rfl)

set_option maxHeartbeats 4000000 in
set_option maxRecDepth 100000 in
theorem wX2_markBlocks_97 {p : Program} {l : Launch} {e : Env} {s : State} {m : MethodId} {args : Array Value} {below : List Frame} {meth : Method} {c : Code} {B : Nat} {D : va_G} {E : Nat → ClassId} (hX : hs_cx cX2_markBlocks none 4 RX2 wcX2_markBlocks p s m args meth c D E) {Q : State → Prop} {o : hs_S} {v1 : Nat} (hex0 : ∀ (H : Heap) (locs : List Loc) (ls : Array Slot), hs_P B D E (o) H → hs_Sx B s.heap H locs → lv_has ls 4 [(1, .ref (B + v1))] → W p l e rmX2_markBlocks s m args below meth c H locs 0 0 Q (F0 m 124 ls [])) : ∀ (n : Nat) (v2 : Int32) (g : hs_S), lX2_markBlocks_97 n v1 v2 g = some o → ∀ (H : Heap) (locs : List Loc) (ls : Array Slot), hs_P B D E g H → hs_Sx B s.heap H locs → lv_has ls 4 [(1, .ref (B + v1)), (2, .int v2)] → W p l e rmX2_markBlocks s m args below meth c H locs 0 0 Q (F0 m 97 ls []) := by
  obtain ⟨hx, hb, hr, hml, hown, hts, hlocks, hK⟩ := id hX
  intro n
  induction n with
  | zero =>
    intro v2 g hf
    cases hf
  | succ n ih =>
    intro v2 g hf H locs ls hP hS hl
    replace hf := (lX2_markBlocks_97_s n v1 v2 g).symm.trans hf
    refine lv_iload_n hx hb dX2_markBlocks_97 rfl (lv_at hl 1 rfl) ?_
    refine lv_aload_n hx hb dX2_markBlocks_98 rfl (lv_at hl 0 rfl) ?_
    obtain ⟨h43, hf⟩ := hs_ck hf
    refine hs_geti (C := RX7) (T := TX7) (N := 11) hx hb hts (fun w h => List.mem_cons_of_mem _ (inlX7 w h)) hown hK.1 hP h43 (by decide) rfl 6 (by decide) (hts _ (List.mem_cons_of_mem _ wq230)) (fun _ h => h) rfl dX2_markBlocks_99 ?_
    refine lv_icmp_ge (tgt := 124) hx hb dX2_markBlocks_102 (by decide) (fun hc => ?_) (fun hc => ?_)
    · replace hf := hs_t hf hc
      obtain rfl := Option.some.inj hf
      exact hex0 _ _ _ hP hS (lv_sub hl [0] rfl)
    · replace hf := hs_f hf hc
      refine lv_aload_n hx hb dX2_markBlocks_105 rfl (lv_at hl 0 rfl) ?_
      refine lv_aload_n hx hb dX2_markBlocks_106 rfl (lv_at hl 0 rfl) ?_
      refine lv_iload_n hx hb dX2_markBlocks_107 rfl (lv_at hl 1 rfl) ?_
      refine lv_iconst (v := 2) hx hb dX2_markBlocks_108 (by decide) ?_
      obtain ⟨r45, g44, h46, hf⟩ := hs_bd_some hf
      refine hs_calli (va_runV (As := [.int v2, .int (2 : Int32)]) (rest := [.ref (B + v1)]) ⟨hx, hb, hml, hown, hts⟩ (ctX7_handlerNumber l B D E v1 v2 (2 : Int32) g _ h46) (cwV 2 hts (hs_gV (fun _ h => List.mem_cons_of_mem _ h) wq321 wq322 wq323 wq43 wq324) rfl rfl rfl (by decide +kernel) ⟨Nat.le_of_ble_eq_true rfl, Nat.le_of_ble_eq_true rfl⟩) (hs_preV (r := (RX7, TX7, 11)) hP hK h43 (by decide) rfl) rfl rfl hl.1 rfl (lv_room (Nat.le_of_ble_eq_true rfl)) dX2_markBlocks_109 ⟨(Nat.le_of_ble_eq_true rfl), (Nat.le_of_ble_eq_true rfl)⟩) hS (fun H locs hP hS => ?_)
      refine lv_sipush (v := 512) hx hb dX2_markBlocks_112 (by decide) ?_
      obtain ⟨h47, hf⟩ := hs_ck hf
      obtain ⟨g48, h50, hf⟩ := hs_bv_some hf
      refine hs_callv (va_runV (As := [.int r45, .int (512 : Int32)]) (rest := []) ⟨hx, hb, hml, hown, hts⟩ (ctX7_mark l B D E v1 r45 (512 : Int32) g44 _ h50) (cwV 2 hts (hs_gV (fun _ h => List.mem_cons_of_mem _ h) wq280 wq281 wq282 wq43 wq283) rfl rfl rfl (by decide +kernel) ⟨Nat.le_of_ble_eq_true rfl, Nat.le_of_ble_eq_true rfl⟩) (hs_preV (r := (RX7, TX7, 11)) hP hK h47 (by decide) rfl) rfl rfl hl.1 rfl (lv_room (Nat.le_of_ble_eq_true rfl)) dX2_markBlocks_115 ⟨(Nat.le_of_ble_eq_true rfl), (Nat.le_of_ble_eq_true rfl)⟩) hS (fun H locs hP hS => ?_)
      refine lv_iinc (v := (v2 + (1 : Int32))) (lv' := [(2, .int (v2 + (1 : Int32))), (1, .ref (B + v1))]) hx hb dX2_markBlocks_118 hl (k := 1) rfl (by rfl) (by decide) rfl (fun ls hl => ?_)
      refine lv_goto (tgt := 97) hx hb dX2_markBlocks_121 (by decide) ?_
      exact ih _ _ hf _ _ _ hP hS (lv_sub hl [1, 0] rfl)

set_option maxHeartbeats 4000000 in
set_option maxRecDepth 100000 in
theorem wX2_markBlocks_j152 {p : Program} {l : Launch} {e : Env} {s : State} {m : MethodId} {args : Array Value} {below : List Frame} {meth : Method} {c : Code} {B : Nat} {D : va_G} {E : Nat → ClassId} (hX : hs_cx cX2_markBlocks none 4 RX2 wcX2_markBlocks p s m args meth c D E) {Q : State → Prop} {o : hs_S} {rec : Int32 → hs_S → Option (hs_S)} {v1 : Nat} {v2 : Int32} {s0 : Int32} {s1 : Int32} {s2 : Nat}  (hrec : ∀ (y0 : Int32) (g : hs_S) (H : Heap) (locs : List Loc) (ls : Array Slot), rec y0 g = some o → hs_P B D E g H → hs_Sx B s.heap H locs → lv_has ls 4 [(1, .ref (B + v1)), (2, .int y0)] → W p l e rmX2_markBlocks s m args below meth c H locs 0 0 Q (F0 m 126 ls [])) (hex0 : ∀ (H : Heap) (locs : List Loc) (ls : Array Slot), hs_P B D E (o) H → hs_Sx B s.heap H locs → lv_has ls 4 [] → W p l e rmX2_markBlocks s m args below meth c H locs 0 0 Q (F0 m 162 ls [])) {g : hs_S} {H : Heap} {locs : List Loc} {ls : Array Slot} (hf : jX2_markBlocks_152 rec v1 v2 s0 s1 s2 g = some o) (hP : hs_P B D E g H) (hS : hs_Sx B s.heap H locs) (hl : lv_has ls 4 [(1, .ref (B + v1)), (2, .int v2)]) : W p l e rmX2_markBlocks s m args below meth c H locs 0 0 Q (F0 m 152 ls [.int s0, .int s1, .ref (B + s2)]) := by
  obtain ⟨hx, hb, hr, hml, hown, hts, hlocks, hK⟩ := id hX
  unfold jX2_markBlocks_152 at hf
  refine lv_iadd hx hb dX2_markBlocks_152 ?_
  obtain ⟨h58, hf⟩ := hs_ck hf
  refine hs_puti (C := RX7) (T := TX7) (N := 11) hx hb hts (fun w h => List.mem_cons_of_mem _ (inlX7 w h)) tyX7 tyX7_ok nmX7 hown hK.1 hP hS h58 (by decide) rfl 7 (by decide) (hts _ (List.mem_cons_of_mem _ wq317)) (fun _ h => h) (Or.inl rfl) rfl rfl rfl dX2_markBlocks_153 (fun H locs hP hS => ?_)
  refine lv_iinc (v := (v2 + (1 : Int32))) (lv' := [(2, .int (v2 + (1 : Int32))), (1, .ref (B + v1))]) hx hb dX2_markBlocks_156 hl (k := 1) rfl (by rfl) (by decide) rfl (fun ls hl => ?_)
  refine lv_goto (tgt := 126) hx hb dX2_markBlocks_159 (by decide) ?_
  exact hrec _ _ _ _ _ hf hP hS (lv_sub hl [1, 0] rfl)

set_option maxHeartbeats 4000000 in
set_option maxRecDepth 100000 in
theorem wX2_markBlocks_126 {p : Program} {l : Launch} {e : Env} {s : State} {m : MethodId} {args : Array Value} {below : List Frame} {meth : Method} {c : Code} {B : Nat} {D : va_G} {E : Nat → ClassId} (hX : hs_cx cX2_markBlocks none 4 RX2 wcX2_markBlocks p s m args meth c D E) {Q : State → Prop} {o : hs_S} {v1 : Nat} (hex0 : ∀ (H : Heap) (locs : List Loc) (ls : Array Slot), hs_P B D E (o) H → hs_Sx B s.heap H locs → lv_has ls 4 [] → W p l e rmX2_markBlocks s m args below meth c H locs 0 0 Q (F0 m 162 ls [])) : ∀ (n : Nat) (v2 : Int32) (g : hs_S), lX2_markBlocks_126 n v1 v2 g = some o → ∀ (H : Heap) (locs : List Loc) (ls : Array Slot), hs_P B D E g H → hs_Sx B s.heap H locs → lv_has ls 4 [(1, .ref (B + v1)), (2, .int v2)] → W p l e rmX2_markBlocks s m args below meth c H locs 0 0 Q (F0 m 126 ls []) := by
  obtain ⟨hx, hb, hr, hml, hown, hts, hlocks, hK⟩ := id hX
  intro n
  induction n with
  | zero =>
    intro v2 g hf
    cases hf
  | succ n ih =>
    intro v2 g hf H locs ls hP hS hl
    replace hf := (lX2_markBlocks_126_s n v1 v2 g).symm.trans hf
    refine lv_iload_n hx hb dX2_markBlocks_126 rfl (lv_at hl 1 rfl) ?_
    refine lv_aload_n hx hb dX2_markBlocks_127 rfl (lv_at hl 0 rfl) ?_
    obtain ⟨h54, hf⟩ := hs_ck hf
    refine hs_geti (C := RX7) (T := TX7) (N := 11) hx hb hts (fun w h => List.mem_cons_of_mem _ (inlX7 w h)) hown hK.1 hP h54 (by decide) rfl 3 (by decide) (hts _ (List.mem_cons_of_mem _ wq219)) (fun _ h => h) rfl dX2_markBlocks_128 ?_
    refine lv_icmp_ge (tgt := 162) hx hb dX2_markBlocks_131 (by decide) (fun hc => ?_) (fun hc => ?_)
    · replace hf := hs_t hf hc
      obtain rfl := Option.some.inj hf
      exact hex0 _ _ _ hP hS (lv_sub hl [] rfl)
    · replace hf := hs_f hf hc
      refine lv_aload_n hx hb dX2_markBlocks_134 rfl (lv_at hl 0 rfl) ?_
      refine lv_dup hx hb dX2_markBlocks_135 rfl ?_
      refine hs_geti (C := RX7) (T := TX7) (N := 11) hx hb hts (fun w h => List.mem_cons_of_mem _ (inlX7 w h)) hown hK.1 hP h54 (by decide) rfl 7 (by decide) (hts _ (List.mem_cons_of_mem _ wq317)) (fun _ h => h) rfl dX2_markBlocks_136 ?_
      refine lv_aload_n hx hb dX2_markBlocks_139 rfl (lv_at hl 0 rfl) ?_
      refine lv_iload_n hx hb dX2_markBlocks_140 rfl (lv_at hl 1 rfl) ?_
      obtain ⟨r56, g55, h57, hf⟩ := hs_bd_some hf
      refine hs_calli (va_runV (As := [.int v2]) (rest := [.int (hs_I g v1 7), .ref (B + v1)]) ⟨hx, hb, hml, hown, hts⟩ (ctX7_beginsBlock l B D E v1 v2 g _ h57) (cwV 1 hts (hs_gV (fun _ h => List.mem_cons_of_mem _ h) wq326 wq327 wq328 wq43 wq329) rfl rfl rfl (by decide +kernel) ⟨Nat.le_of_ble_eq_true rfl, Nat.le_of_ble_eq_true rfl⟩) (hs_preV (r := (RX7, TX7, 11)) hP hK h54 (by decide) rfl) rfl rfl hl.1 rfl (lv_room (Nat.le_of_ble_eq_true rfl)) dX2_markBlocks_141 ⟨(Nat.le_of_ble_eq_true rfl), (Nat.le_of_ble_eq_true rfl)⟩) hS (fun H locs hP hS => ?_)
      refine lv_if_eq (tgt := 151) hx hb dX2_markBlocks_144 (by decide) (fun hc => ?_) (fun hc => ?_)
      · replace hf := hs_t hf hc
        refine lv_iconst (v := 0) hx hb dX2_markBlocks_151 (by decide) ?_
        exact wX2_markBlocks_j152 hX (fun z0 g H locs ls hf hP hS hl => ih z0 g hf H locs ls hP hS hl) hex0 hf hP hS (lv_sub hl [0, 1] rfl)
      · replace hf := hs_f hf hc
        refine lv_iconst (v := 1) hx hb dX2_markBlocks_147 (by decide) ?_
        refine lv_goto (tgt := 152) hx hb dX2_markBlocks_148 (by decide) ?_
        exact wX2_markBlocks_j152 hX (fun z0 g H locs ls hf hP hS hl => ih z0 g hf H locs ls hP hS hl) hex0 hf hP hS (lv_sub hl [0, 1] rfl)

set_option maxHeartbeats 4000000 in
set_option maxRecDepth 100000 in
theorem ctX2_markBlocks (l : Launch) (B : Nat) (D : va_G) (E : Nat → ClassId) (v0 : Nat) (v1 : Nat) (g : hs_S) (o : hs_S) (hf : fX2_markBlocks v0 v1 g = some o) : Met l yX2_markBlocks wcX2_markBlocks rmX2_markBlocks (hs_Pc B D E g [.ref (B + v0), .ref (B + v1)]) (hs_Qv B D E o) (0) (0) (hs_F B) := by
  refine Met.ofW (cc := cX2_markBlocks) (maxL := 4) (ret := none) (by decide) rfl ?_
  intro p e s m args below meth c s₁ Bd hml hv
  obtain ⟨rfl, hP, hK⟩ := hv
  have hx := Bd.exec
  have hb := Bd.bytes
  have hr := Bd.returns
  have hts := atoms_spec (ws := wcX2_markBlocks) Bd.pre
  have hown : s.vm.findClass RX2 = some m.cls := findClass_of_methodNamed Bd.named
  have hlocks := Bd.notSynchronized
  have hS : hs_Sx B s.heap s.heap [] := va_S.rf
  have hX : hs_cx cX2_markBlocks none 4 RX2 wcX2_markBlocks p s m (List.toArray [.ref (B + v0), .ref (B + v1)]) meth c D E := ⟨hx, hb, hr, hml, hown, hts, hlocks, hK⟩
  have hl := lv_entry ([.ref (B + v0), .ref (B + v1)]) (n := 4) (Nat.le_of_ble_eq_true rfl)
  rw [lg_entry_eq]
  generalize (lg_sl ([.ref (B + v0), .ref (B + v1)]) ++ List.replicate (4 - (lg_sl ([.ref (B + v0), .ref (B + v1)])).length) Slot.unset).toArray = ls at hl ⊢
  have hl : lv_has ls 4 [(0, .ref (B + v0)), (1, .ref (B + v1))] := hl
  have hP : hs_P B D E g s.heap := hP
  unfold fX2_markBlocks at hf
  refine lv_aload_n hx hb dX2_markBlocks_0 rfl (lv_at hl 1 rfl) ?_
  refine lv_iconst (v := 0) hx hb dX2_markBlocks_1 (by decide) ?_
  refine lv_sipush (v := 512) hx hb dX2_markBlocks_2 (by decide) ?_
  obtain ⟨h1, hf⟩ := hs_ck hf
  obtain ⟨g2, h4, hf⟩ := hs_bv_some hf
  refine hs_callv (va_runV (As := [.int (0 : Int32), .int (512 : Int32)]) (rest := []) ⟨hx, hb, hml, hown, hts⟩ (ctX7_mark l B D E v1 (0 : Int32) (512 : Int32) g _ h4) (cwV 2 hts (hs_gV (fun _ h => List.mem_cons_of_mem _ h) wq280 wq281 wq282 wq43 wq283) rfl rfl rfl (by decide +kernel) ⟨Nat.le_of_ble_eq_true rfl, Nat.le_of_ble_eq_true rfl⟩) (hs_preV (r := (RX7, TX7, 11)) hP hK h1 (by decide) rfl) rfl rfl hl.1 rfl (lv_room (Nat.le_of_ble_eq_true rfl)) dX2_markBlocks_5 ⟨(Nat.le_of_ble_eq_true rfl), (Nat.le_of_ble_eq_true rfl)⟩) hS (fun H locs hP hS => ?_)
  refine lv_iconst (v := 0) hx hb dX2_markBlocks_8 (by decide) ?_
  refine lv_istore_n (lv' := [(2, .int (0 : Int32)), (0, .ref (B + v0)), (1, .ref (B + v1))]) hx hb dX2_markBlocks_9 rfl hl (by decide) rfl (fun ls hl => ?_)
  obtain ⟨g41, h42, hf⟩ := hs_bv_some hf
  refine wX2_markBlocks_10 hX (fun H locs ls hP hS hl => ?_) hs_N _ _ h42 _ _ _ hP hS (lv_sub hl [2, 0] rfl)
  refine lv_iconst (v := 0) hx hb dX2_markBlocks_95 (by decide) ?_
  refine lv_istore_n (lv' := [(2, .int (0 : Int32)), (1, .ref (B + v1))]) hx hb dX2_markBlocks_96 rfl hl (by decide) rfl (fun ls hl => ?_)
  obtain ⟨g52, h53, hf⟩ := hs_bv_some hf
  refine wX2_markBlocks_97 hX (fun H locs ls hP hS hl => ?_) hs_N _ _ h53 _ _ _ hP hS (lv_sub hl [1, 0] rfl)
  refine lv_iconst (v := 0) hx hb dX2_markBlocks_124 (by decide) ?_
  refine lv_istore_n (lv' := [(2, .int (0 : Int32)), (1, .ref (B + v1))]) hx hb dX2_markBlocks_125 rfl hl (by decide) rfl (fun ls hl => ?_)
  obtain ⟨g60, h61, hf⟩ := hs_bv_some hf
  refine wX2_markBlocks_126 hX (fun H locs ls hP hS hl => ?_) hs_N _ _ h61 _ _ _ hP hS (lv_sub hl [1, 0] rfl)
  exact hs_vret hx hb hr hlocks hK hP hS hf dX2_markBlocks_162

theorem dX2_wrongInMethod_0 : decode cX2_wrongInMethod 0 = .ok (.aload_n 2, 1) := by decide +kernel
theorem dX2_wrongInMethod_1 : decode cX2_wrongInMethod 1 = .ok (.invokevirtual 62, 3) := by decide +kernel
theorem dX2_wrongInMethod_4 : decode cX2_wrongInMethod 4 = .ok (.aload_n 0, 1) := by decide +kernel
theorem dX2_wrongInMethod_5 : decode cX2_wrongInMethod 5 = .ok (.aload_n 1, 1) := by decide +kernel
theorem dX2_wrongInMethod_6 : decode cX2_wrongInMethod 6 = .ok (.aload_n 2, 1) := by decide +kernel
theorem dX2_wrongInMethod_7 : decode cX2_wrongInMethod 7 = .ok (.iload_n 3, 1) := by decide +kernel
theorem dX2_wrongInMethod_8 : decode cX2_wrongInMethod 8 = .ok (.invokevirtual 65, 3) := by decide +kernel
theorem dX2_wrongInMethod_11 : decode cX2_wrongInMethod 11 = .ok (.istore 4, 2) := by decide +kernel
theorem dX2_wrongInMethod_13 : decode cX2_wrongInMethod 13 = .ok (.iload 4, 2) := by decide +kernel
theorem dX2_wrongInMethod_15 : decode cX2_wrongInMethod 15 = .ok (.iconst (-1), 1) := by decide +kernel
theorem dX2_wrongInMethod_16 : decode cX2_wrongInMethod 16 = .ok (.if_icmp .ne 12, 3) := by decide +kernel
theorem dX2_wrongInMethod_19 : decode cX2_wrongInMethod 19 = .ok (.aload_n 0, 1) := by decide +kernel
theorem dX2_wrongInMethod_20 : decode cX2_wrongInMethod 20 = .ok (.aload_n 1, 1) := by decide +kernel
theorem dX2_wrongInMethod_21 : decode cX2_wrongInMethod 21 = .ok (.aload_n 2, 1) := by decide +kernel
theorem dX2_wrongInMethod_22 : decode cX2_wrongInMethod 22 = .ok (.invokevirtual 68, 3) := by decide +kernel
theorem dX2_wrongInMethod_25 : decode cX2_wrongInMethod 25 = .ok (.goto 5, 3) := by decide +kernel
theorem dX2_wrongInMethod_28 : decode cX2_wrongInMethod 28 = .ok (.iload 4, 2) := by decide +kernel
theorem dX2_wrongInMethod_30 : decode cX2_wrongInMethod 30 = .ok (.istore 4, 2) := by decide +kernel
theorem dX2_wrongInMethod_32 : decode cX2_wrongInMethod 32 = .ok (.iload 4, 2) := by decide +kernel
theorem dX2_wrongInMethod_34 : decode cX2_wrongInMethod 34 = .ok (.iconst (-1), 1) := by decide +kernel
theorem dX2_wrongInMethod_35 : decode cX2_wrongInMethod 35 = .ok (.if_icmp .ne 12, 3) := by decide +kernel
theorem dX2_wrongInMethod_38 : decode cX2_wrongInMethod 38 = .ok (.aload_n 0, 1) := by decide +kernel
theorem dX2_wrongInMethod_39 : decode cX2_wrongInMethod 39 = .ok (.aload_n 1, 1) := by decide +kernel
theorem dX2_wrongInMethod_40 : decode cX2_wrongInMethod 40 = .ok (.aload_n 2, 1) := by decide +kernel
theorem dX2_wrongInMethod_41 : decode cX2_wrongInMethod 41 = .ok (.invokevirtual 72, 3) := by decide +kernel
theorem dX2_wrongInMethod_44 : decode cX2_wrongInMethod 44 = .ok (.goto 5, 3) := by decide +kernel
theorem dX2_wrongInMethod_47 : decode cX2_wrongInMethod 47 = .ok (.iload 4, 2) := by decide +kernel
theorem dX2_wrongInMethod_49 : decode cX2_wrongInMethod 49 = .ok (.istore 4, 2) := by decide +kernel
theorem dX2_wrongInMethod_51 : decode cX2_wrongInMethod 51 = .ok (.iload 4, 2) := by decide +kernel
theorem dX2_wrongInMethod_53 : decode cX2_wrongInMethod 53 = .ok (.iconst (-1), 1) := by decide +kernel
theorem dX2_wrongInMethod_54 : decode cX2_wrongInMethod 54 = .ok (.if_icmp .ne 11, 3) := by decide +kernel
theorem dX2_wrongInMethod_57 : decode cX2_wrongInMethod 57 = .ok (.aload_n 0, 1) := by decide +kernel
theorem dX2_wrongInMethod_58 : decode cX2_wrongInMethod 58 = .ok (.aload_n 2, 1) := by decide +kernel
theorem dX2_wrongInMethod_59 : decode cX2_wrongInMethod 59 = .ok (.invokevirtual 75, 3) := by decide +kernel
theorem dX2_wrongInMethod_62 : decode cX2_wrongInMethod 62 = .ok (.goto 5, 3) := by decide +kernel
theorem dX2_wrongInMethod_65 : decode cX2_wrongInMethod 65 = .ok (.iload 4, 2) := by decide +kernel
theorem dX2_wrongInMethod_67 : decode cX2_wrongInMethod 67 = .ok (.istore 4, 2) := by decide +kernel
theorem dX2_wrongInMethod_69 : decode cX2_wrongInMethod 69 = .ok (.iload 4, 2) := by decide +kernel
theorem dX2_wrongInMethod_71 : decode cX2_wrongInMethod 71 = .ok (.iconst (-1), 1) := by decide +kernel
theorem dX2_wrongInMethod_72 : decode cX2_wrongInMethod 72 = .ok (.if_icmp .ne 8, 3) := by decide +kernel
theorem dX2_wrongInMethod_75 : decode cX2_wrongInMethod 75 = .ok (.aload_n 0, 1) := by decide +kernel
theorem dX2_wrongInMethod_76 : decode cX2_wrongInMethod 76 = .ok (.aload_n 2, 1) := by decide +kernel
theorem dX2_wrongInMethod_77 : decode cX2_wrongInMethod 77 = .ok (.invokevirtual 78, 3) := by decide +kernel
theorem dX2_wrongInMethod_80 : decode cX2_wrongInMethod 80 = .ok (.iload 4, 2) := by decide +kernel
theorem dX2_wrongInMethod_82 : decode cX2_wrongInMethod 82 = .ok (.ireturn, 1) := by decide +kernel
abbrev wcX2_wrongInMethod : List Cond := .code yX2_wrongInMethod cX2_wrongInMethod 5 (some .int) :: wsL_law
def jX2_wrongInMethod_67 (v0 : Nat) (v2 : Nat) (s0 : Int32) (g : hs_S) : Option (Int32 × hs_S) :=
  if s0 = (-1 : Int32) then (
    if hs_kd g v0 = 2 then
    hs_bv (fX2_markBlocks v0 v2 g) fun g10 =>
    some (s0, g10)
    else none
  ) else (
    some (s0, g)
  )
def jX2_wrongInMethod_49 (v0 : Nat) (v2 : Nat) (s0 : Int32) (g : hs_S) : Option (Int32 × hs_S) :=
  if s0 = (-1 : Int32) then (
    if hs_kd g v0 = 2 then
    hs_bd (fX2_wrongJump v0 v2 g) fun r15 g14 =>
    jX2_wrongInMethod_67 v0 v2 r15 g14
    else none
  ) else (
    jX2_wrongInMethod_67 v0 v2 s0 g
  )
def jX2_wrongInMethod_30 (v0 : Nat) (v1 : Nat) (v2 : Nat) (s0 : Int32) (g : hs_S) : Option (Int32 × hs_S) :=
  if s0 = (-1 : Int32) then (
    if hs_kd g v0 = 2 then
    hs_bd (fX2_wrongHandler v0 v1 v2 g) fun r19 g18 =>
    jX2_wrongInMethod_49 v0 v2 r19 g18
    else none
  ) else (
    jX2_wrongInMethod_49 v0 v2 s0 g
  )
def fX2_wrongInMethod (v0 : Nat) (v1 : Nat) (v2 : Nat) (v3 : Int32) (g : hs_S) : Option (Int32 × hs_S) :=
  if hs_kd g v2 = 6 then
  hs_bv (fX7_empty v2 g) fun g2 =>
  if hs_kd g2 v0 = 2 then
  hs_bd (fX2_wrongNumber v0 v1 v2 v3 g2) fun r7 g6 =>
  if r7 = (-1 : Int32) then (
    if hs_kd g6 v0 = 2 then
    hs_bd (fX2_wrongInstruction v0 v1 v2 g6) fun r23 g22 =>
    jX2_wrongInMethod_30 v0 v1 v2 r23 g22
    else none
  ) else (
    jX2_wrongInMethod_30 v0 v1 v2 r7 g6
  )
  else none else none
abbrev rmX2_wrongInMethod : Room := { frames := 4, cells := 0, slots := 0, locals := 92 }
set_option maxHeartbeats 4000000 in
set_option maxRecDepth 100000 in
theorem wX2_wrongInMethod_j67 {p : Program} {l : Launch} {e : Env} {s : State} {m : MethodId} {args : Array Value} {below : List Frame} {meth : Method} {c : Code} {B : Nat} {D : va_G} {E : Nat → ClassId} (hX : hs_cx cX2_wrongInMethod (some .int) 5 RX2 wcX2_wrongInMethod p s m args meth c D E) {o : Int32 × hs_S}  {v0 : Nat} {v2 : Nat} {s0 : Int32}   {g : hs_S} {H : Heap} {locs : List Loc} {ls : Array Slot} (hf : jX2_wrongInMethod_67 v0 v2 s0 g = some o) (hP : hs_P B D E g H) (hS : hs_Sx B s.heap H locs) (hl : lv_has ls 5 [(0, .ref (B + v0)), (2, .ref (B + v2))]) : W p l e rmX2_wrongInMethod s m args below meth c H locs 0 0 (MQ below (hs_Qi B D E o) args s 0 0 (hs_F B)) (F0 m 67 ls [.int s0]) := by
  obtain ⟨hx, hb, hr, hml, hown, hts, hlocks, hK⟩ := id hX
  unfold jX2_wrongInMethod_67 at hf
  refine lv_istore (lv' := [(4, .int s0), (0, .ref (B + v0)), (2, .ref (B + v2))]) hx hb dX2_wrongInMethod_67 hl (by decide) rfl (fun ls hl => ?_)
  refine lv_iload hx hb dX2_wrongInMethod_69 (lv_at hl 0 rfl) ?_
  refine lv_iconst (v := -1) hx hb dX2_wrongInMethod_71 (by decide) ?_
  refine lv_icmp_ne (tgt := 80) hx hb dX2_wrongInMethod_72 (by decide) (fun hc => ?_) (fun hc => ?_)
  · replace hf := hs_f hf hc
    refine lv_iload hx hb dX2_wrongInMethod_80 (lv_at hl 0 rfl) ?_
    exact hs_iret hx hb hr hlocks rfl hK hP hS hf dX2_wrongInMethod_82
  · replace hf := hs_t hf hc
    refine lv_aload_n hx hb dX2_wrongInMethod_75 rfl (lv_at hl 1 rfl) ?_
    refine lv_aload_n hx hb dX2_wrongInMethod_76 rfl (lv_at hl 2 rfl) ?_
    obtain ⟨h9, hf⟩ := hs_ck hf
    obtain ⟨g10, h12, hf⟩ := hs_bv_some hf
    refine hs_callv (va_runV (As := [.ref (B + v2)]) (rest := []) ⟨hx, hb, hml, hown, hts⟩ (ctX2_markBlocks l B D E v0 v2 g _ h12) (cwV 1 hts (hs_gV (fun _ h => List.mem_cons_of_mem _ h) wq313 wq314 wq315 wq26 wq316) rfl rfl rfl (by decide +kernel) ⟨Nat.le_of_ble_eq_true rfl, Nat.le_of_ble_eq_true rfl⟩) (hs_preV (r := (RX2, TX2, 1)) hP hK h9 (by decide) rfl) rfl rfl hl.1 rfl (lv_room (Nat.le_of_ble_eq_true rfl)) dX2_wrongInMethod_77 ⟨(Nat.le_of_ble_eq_true rfl), (Nat.le_of_ble_eq_true rfl)⟩) hS (fun H locs hP hS => ?_)
    refine lv_iload hx hb dX2_wrongInMethod_80 (lv_at hl 0 rfl) ?_
    exact hs_iret hx hb hr hlocks rfl hK hP hS hf dX2_wrongInMethod_82

set_option maxHeartbeats 4000000 in
set_option maxRecDepth 100000 in
theorem wX2_wrongInMethod_j49 {p : Program} {l : Launch} {e : Env} {s : State} {m : MethodId} {args : Array Value} {below : List Frame} {meth : Method} {c : Code} {B : Nat} {D : va_G} {E : Nat → ClassId} (hX : hs_cx cX2_wrongInMethod (some .int) 5 RX2 wcX2_wrongInMethod p s m args meth c D E) {o : Int32 × hs_S}  {v0 : Nat} {v2 : Nat} {s0 : Int32}   {g : hs_S} {H : Heap} {locs : List Loc} {ls : Array Slot} (hf : jX2_wrongInMethod_49 v0 v2 s0 g = some o) (hP : hs_P B D E g H) (hS : hs_Sx B s.heap H locs) (hl : lv_has ls 5 [(0, .ref (B + v0)), (2, .ref (B + v2))]) : W p l e rmX2_wrongInMethod s m args below meth c H locs 0 0 (MQ below (hs_Qi B D E o) args s 0 0 (hs_F B)) (F0 m 49 ls [.int s0]) := by
  obtain ⟨hx, hb, hr, hml, hown, hts, hlocks, hK⟩ := id hX
  unfold jX2_wrongInMethod_49 at hf
  refine lv_istore (lv' := [(4, .int s0), (0, .ref (B + v0)), (2, .ref (B + v2))]) hx hb dX2_wrongInMethod_49 hl (by decide) rfl (fun ls hl => ?_)
  refine lv_iload hx hb dX2_wrongInMethod_51 (lv_at hl 0 rfl) ?_
  refine lv_iconst (v := -1) hx hb dX2_wrongInMethod_53 (by decide) ?_
  refine lv_icmp_ne (tgt := 65) hx hb dX2_wrongInMethod_54 (by decide) (fun hc => ?_) (fun hc => ?_)
  · replace hf := hs_f hf hc
    refine lv_iload hx hb dX2_wrongInMethod_65 (lv_at hl 0 rfl) ?_
    exact wX2_wrongInMethod_j67 hX hf hP hS (lv_sub hl [1, 2] rfl)
  · replace hf := hs_t hf hc
    refine lv_aload_n hx hb dX2_wrongInMethod_57 rfl (lv_at hl 1 rfl) ?_
    refine lv_aload_n hx hb dX2_wrongInMethod_58 rfl (lv_at hl 2 rfl) ?_
    obtain ⟨h13, hf⟩ := hs_ck hf
    obtain ⟨r15, g14, h16, hf⟩ := hs_bd_some hf
    refine hs_calli (va_runV (As := [.ref (B + v2)]) (rest := []) ⟨hx, hb, hml, hown, hts⟩ (ctX2_wrongJump l B D E v0 v2 g _ h16) (cwV 1 hts (hs_gV (fun _ h => List.mem_cons_of_mem _ h) wq297 wq298 wq299 wq26 wq300) rfl rfl rfl (by decide +kernel) ⟨Nat.le_of_ble_eq_true rfl, Nat.le_of_ble_eq_true rfl⟩) (hs_preV (r := (RX2, TX2, 1)) hP hK h13 (by decide) rfl) rfl rfl hl.1 rfl (lv_room (Nat.le_of_ble_eq_true rfl)) dX2_wrongInMethod_59 ⟨(Nat.le_of_ble_eq_true rfl), (Nat.le_of_ble_eq_true rfl)⟩) hS (fun H locs hP hS => ?_)
    refine lv_goto (tgt := 67) hx hb dX2_wrongInMethod_62 (by decide) ?_
    exact wX2_wrongInMethod_j67 hX hf hP hS (lv_sub hl [1, 2] rfl)

set_option maxHeartbeats 4000000 in
set_option maxRecDepth 100000 in
theorem wX2_wrongInMethod_j30 {p : Program} {l : Launch} {e : Env} {s : State} {m : MethodId} {args : Array Value} {below : List Frame} {meth : Method} {c : Code} {B : Nat} {D : va_G} {E : Nat → ClassId} (hX : hs_cx cX2_wrongInMethod (some .int) 5 RX2 wcX2_wrongInMethod p s m args meth c D E) {o : Int32 × hs_S}  {v0 : Nat} {v1 : Nat} {v2 : Nat} {s0 : Int32}   {g : hs_S} {H : Heap} {locs : List Loc} {ls : Array Slot} (hf : jX2_wrongInMethod_30 v0 v1 v2 s0 g = some o) (hP : hs_P B D E g H) (hS : hs_Sx B s.heap H locs) (hl : lv_has ls 5 [(0, .ref (B + v0)), (1, .ref (B + v1)), (2, .ref (B + v2))]) : W p l e rmX2_wrongInMethod s m args below meth c H locs 0 0 (MQ below (hs_Qi B D E o) args s 0 0 (hs_F B)) (F0 m 30 ls [.int s0]) := by
  obtain ⟨hx, hb, hr, hml, hown, hts, hlocks, hK⟩ := id hX
  unfold jX2_wrongInMethod_30 at hf
  refine lv_istore (lv' := [(4, .int s0), (0, .ref (B + v0)), (1, .ref (B + v1)), (2, .ref (B + v2))]) hx hb dX2_wrongInMethod_30 hl (by decide) rfl (fun ls hl => ?_)
  refine lv_iload hx hb dX2_wrongInMethod_32 (lv_at hl 0 rfl) ?_
  refine lv_iconst (v := -1) hx hb dX2_wrongInMethod_34 (by decide) ?_
  refine lv_icmp_ne (tgt := 47) hx hb dX2_wrongInMethod_35 (by decide) (fun hc => ?_) (fun hc => ?_)
  · replace hf := hs_f hf hc
    refine lv_iload hx hb dX2_wrongInMethod_47 (lv_at hl 0 rfl) ?_
    exact wX2_wrongInMethod_j49 hX hf hP hS (lv_sub hl [1, 3] rfl)
  · replace hf := hs_t hf hc
    refine lv_aload_n hx hb dX2_wrongInMethod_38 rfl (lv_at hl 1 rfl) ?_
    refine lv_aload_n hx hb dX2_wrongInMethod_39 rfl (lv_at hl 2 rfl) ?_
    refine lv_aload_n hx hb dX2_wrongInMethod_40 rfl (lv_at hl 3 rfl) ?_
    obtain ⟨h17, hf⟩ := hs_ck hf
    obtain ⟨r19, g18, h20, hf⟩ := hs_bd_some hf
    refine hs_calli (va_runV (As := [.ref (B + v1), .ref (B + v2)]) (rest := []) ⟨hx, hb, hml, hown, hts⟩ (ctX2_wrongHandler l B D E v0 v1 v2 g _ h20) (cwV 2 hts (hs_gV (fun _ h => List.mem_cons_of_mem _ h) wq284 wq285 wq286 wq26 wq287) rfl rfl rfl (by decide +kernel) ⟨Nat.le_of_ble_eq_true rfl, Nat.le_of_ble_eq_true rfl⟩) (hs_preV (r := (RX2, TX2, 1)) hP hK h17 (by decide) rfl) rfl rfl hl.1 rfl (lv_room (Nat.le_of_ble_eq_true rfl)) dX2_wrongInMethod_41 ⟨(Nat.le_of_ble_eq_true rfl), (Nat.le_of_ble_eq_true rfl)⟩) hS (fun H locs hP hS => ?_)
    refine lv_goto (tgt := 49) hx hb dX2_wrongInMethod_44 (by decide) ?_
    exact wX2_wrongInMethod_j49 hX hf hP hS (lv_sub hl [1, 3] rfl)

set_option maxHeartbeats 4000000 in
set_option maxRecDepth 100000 in
theorem ctX2_wrongInMethod (l : Launch) (B : Nat) (D : va_G) (E : Nat → ClassId) (v0 : Nat) (v1 : Nat) (v2 : Nat) (v3 : Int32) (g : hs_S) (o : Int32 × hs_S) (hf : fX2_wrongInMethod v0 v1 v2 v3 g = some o) : Met l yX2_wrongInMethod wcX2_wrongInMethod rmX2_wrongInMethod (hs_Pc B D E g [.ref (B + v0), .ref (B + v1), .ref (B + v2), .int v3]) (hs_Qi B D E o) (0) (0) (hs_F B) := by
  refine Met.ofW (cc := cX2_wrongInMethod) (maxL := 5) (ret := (some .int)) (by decide) rfl ?_
  intro p e s m args below meth c s₁ Bd hml hv
  obtain ⟨rfl, hP, hK⟩ := hv
  have hx := Bd.exec
  have hb := Bd.bytes
  have hr := Bd.returns
  have hts := atoms_spec (ws := wcX2_wrongInMethod) Bd.pre
  have hown : s.vm.findClass RX2 = some m.cls := findClass_of_methodNamed Bd.named
  have hlocks := Bd.notSynchronized
  have hS : hs_Sx B s.heap s.heap [] := va_S.rf
  have hX : hs_cx cX2_wrongInMethod (some .int) 5 RX2 wcX2_wrongInMethod p s m (List.toArray [.ref (B + v0), .ref (B + v1), .ref (B + v2), .int v3]) meth c D E := ⟨hx, hb, hr, hml, hown, hts, hlocks, hK⟩
  have hl := lv_entry ([.ref (B + v0), .ref (B + v1), .ref (B + v2), .int v3]) (n := 5) (Nat.le_of_ble_eq_true rfl)
  rw [lg_entry_eq]
  generalize (lg_sl ([.ref (B + v0), .ref (B + v1), .ref (B + v2), .int v3]) ++ List.replicate (5 - (lg_sl ([.ref (B + v0), .ref (B + v1), .ref (B + v2), .int v3])).length) Slot.unset).toArray = ls at hl ⊢
  have hl : lv_has ls 5 [(0, .ref (B + v0)), (1, .ref (B + v1)), (2, .ref (B + v2)), (3, .int v3)] := hl
  have hP : hs_P B D E g s.heap := hP
  unfold fX2_wrongInMethod at hf
  refine lv_aload_n hx hb dX2_wrongInMethod_0 rfl (lv_at hl 2 rfl) ?_
  obtain ⟨h1, hf⟩ := hs_ck hf
  obtain ⟨g2, h4, hf⟩ := hs_bv_some hf
  refine hs_callv (va_runV (As := []) (rest := []) ⟨hx, hb, hml, hown, hts⟩ (ctX7_empty l B D E v2 g _ h4) (cwV 0 hts (hs_gV (fun _ h => List.mem_cons_of_mem _ h) wq200 wq201 wq202 wq43 wq203) rfl rfl rfl (by decide +kernel) ⟨Nat.le_of_ble_eq_true rfl, Nat.le_of_ble_eq_true rfl⟩) (hs_preV (r := (RX7, TX7, 11)) hP hK h1 (by decide) rfl) rfl rfl hl.1 rfl (lv_room (Nat.le_of_ble_eq_true rfl)) dX2_wrongInMethod_1 ⟨(Nat.le_of_ble_eq_true rfl), (Nat.le_of_ble_eq_true rfl)⟩) hS (fun H locs hP hS => ?_)
  refine lv_aload_n hx hb dX2_wrongInMethod_4 rfl (lv_at hl 0 rfl) ?_
  refine lv_aload_n hx hb dX2_wrongInMethod_5 rfl (lv_at hl 1 rfl) ?_
  refine lv_aload_n hx hb dX2_wrongInMethod_6 rfl (lv_at hl 2 rfl) ?_
  refine lv_iload_n hx hb dX2_wrongInMethod_7 rfl (lv_at hl 3 rfl) ?_
  obtain ⟨h5, hf⟩ := hs_ck hf
  obtain ⟨r7, g6, h8, hf⟩ := hs_bd_some hf
  refine hs_calli (va_runV (As := [.ref (B + v1), .ref (B + v2), .int v3]) (rest := []) ⟨hx, hb, hml, hown, hts⟩ (ctX2_wrongNumber l B D E v0 v1 v2 v3 g2 _ h8) (cwV 3 hts (hs_gV (fun _ h => List.mem_cons_of_mem _ h) wq213 wq214 wq215 wq26 wq216) rfl rfl rfl (by decide +kernel) ⟨Nat.le_of_ble_eq_true rfl, Nat.le_of_ble_eq_true rfl⟩) (hs_preV (r := (RX2, TX2, 1)) hP hK h5 (by decide) rfl) rfl rfl hl.1 rfl (lv_room (Nat.le_of_ble_eq_true rfl)) dX2_wrongInMethod_8 ⟨(Nat.le_of_ble_eq_true rfl), (Nat.le_of_ble_eq_true rfl)⟩) hS (fun H locs hP hS => ?_)
  refine lv_istore (lv' := [(4, .int r7), (0, .ref (B + v0)), (1, .ref (B + v1)), (2, .ref (B + v2)), (3, .int v3)]) hx hb dX2_wrongInMethod_11 hl (by decide) rfl (fun ls hl => ?_)
  refine lv_iload hx hb dX2_wrongInMethod_13 (lv_at hl 0 rfl) ?_
  refine lv_iconst (v := -1) hx hb dX2_wrongInMethod_15 (by decide) ?_
  refine lv_icmp_ne (tgt := 28) hx hb dX2_wrongInMethod_16 (by decide) (fun hc => ?_) (fun hc => ?_)
  · replace hf := hs_f hf hc
    refine lv_iload hx hb dX2_wrongInMethod_28 (lv_at hl 0 rfl) ?_
    exact wX2_wrongInMethod_j30 hX hf hP hS (lv_sub hl [1, 2, 3] rfl)
  · replace hf := hs_t hf hc
    refine lv_aload_n hx hb dX2_wrongInMethod_19 rfl (lv_at hl 1 rfl) ?_
    refine lv_aload_n hx hb dX2_wrongInMethod_20 rfl (lv_at hl 2 rfl) ?_
    refine lv_aload_n hx hb dX2_wrongInMethod_21 rfl (lv_at hl 3 rfl) ?_
    obtain ⟨h21, hf⟩ := hs_ck hf
    obtain ⟨r23, g22, h24, hf⟩ := hs_bd_some hf
    refine hs_calli (va_runV (As := [.ref (B + v1), .ref (B + v2)]) (rest := []) ⟨hx, hb, hml, hown, hts⟩ (ctX2_wrongInstruction l B D E v0 v1 v2 g6 _ h24) (cwV 2 hts (hs_gV (fun _ h => List.mem_cons_of_mem _ h) wq239 wq240 wq241 wq26 wq242) rfl rfl rfl (by decide +kernel) ⟨Nat.le_of_ble_eq_true rfl, Nat.le_of_ble_eq_true rfl⟩) (hs_preV (r := (RX2, TX2, 1)) hP hK h21 (by decide) rfl) rfl rfl hl.1 rfl (lv_room (Nat.le_of_ble_eq_true rfl)) dX2_wrongInMethod_22 ⟨(Nat.le_of_ble_eq_true rfl), (Nat.le_of_ble_eq_true rfl)⟩) hS (fun H locs hP hS => ?_)
    refine lv_goto (tgt := 30) hx hb dX2_wrongInMethod_25 (by decide) ?_
    exact wX2_wrongInMethod_j30 hX hf hP hS (lv_sub hl [1, 2, 3] rfl)

theorem dX1_findLowest_0 : decode cX1_findLowest 0 = .ok (.aload_n 0, 1) := by decide +kernel
theorem dX1_findLowest_1 : decode cX1_findLowest 1 = .ok (.getfield 43, 3) := by decide +kernel
theorem dX1_findLowest_4 : decode cX1_findLowest 4 = .ok (.iload_n 1, 1) := by decide +kernel
theorem dX1_findLowest_5 : decode cX1_findLowest 5 = .ok (.if_icmp .ge 47, 3) := by decide +kernel
theorem dX1_findLowest_8 : decode cX1_findLowest 8 = .ok (.aload_n 0, 1) := by decide +kernel
theorem dX1_findLowest_9 : decode cX1_findLowest 9 = .ok (.getfield 9, 3) := by decide +kernel
theorem dX1_findLowest_12 : decode cX1_findLowest 12 = .ok (.aload_n 0, 1) := by decide +kernel
theorem dX1_findLowest_13 : decode cX1_findLowest 13 = .ok (.getfield 43, 3) := by decide +kernel
theorem dX1_findLowest_16 : decode cX1_findLowest 16 = .ok (.invokestatic 77, 3) := by decide +kernel
theorem dX1_findLowest_19 : decode cX1_findLowest 19 = .ok (.iconst (-1), 1) := by decide +kernel
theorem dX1_findLowest_20 : decode cX1_findLowest 20 = .ok (.if_icmp .eq 19, 3) := by decide +kernel
theorem dX1_findLowest_23 : decode cX1_findLowest 23 = .ok (.aload_n 0, 1) := by decide +kernel
theorem dX1_findLowest_24 : decode cX1_findLowest 24 = .ok (.getfield 15, 3) := by decide +kernel
theorem dX1_findLowest_27 : decode cX1_findLowest 27 = .ok (.aload_n 0, 1) := by decide +kernel
theorem dX1_findLowest_28 : decode cX1_findLowest 28 = .ok (.getfield 43, 3) := by decide +kernel
theorem dX1_findLowest_31 : decode cX1_findLowest 31 = .ok (.invokestatic 77, 3) := by decide +kernel
theorem dX1_findLowest_34 : decode cX1_findLowest 34 = .ok (.ifCond .ne 5, 3) := by decide +kernel
theorem dX1_findLowest_37 : decode cX1_findLowest 37 = .ok (.iconst 1, 1) := by decide +kernel
theorem dX1_findLowest_38 : decode cX1_findLowest 38 = .ok (.ireturn, 1) := by decide +kernel
theorem dX1_findLowest_39 : decode cX1_findLowest 39 = .ok (.aload_n 0, 1) := by decide +kernel
theorem dX1_findLowest_40 : decode cX1_findLowest 40 = .ok (.dup, 1) := by decide +kernel
theorem dX1_findLowest_41 : decode cX1_findLowest 41 = .ok (.getfield 43, 3) := by decide +kernel
theorem dX1_findLowest_44 : decode cX1_findLowest 44 = .ok (.iconst 1, 1) := by decide +kernel
theorem dX1_findLowest_45 : decode cX1_findLowest 45 = .ok (.iadd, 1) := by decide +kernel
theorem dX1_findLowest_46 : decode cX1_findLowest 46 = .ok (.putfield 43, 3) := by decide +kernel
theorem dX1_findLowest_49 : decode cX1_findLowest 49 = .ok (.goto (-49), 3) := by decide +kernel
theorem dX1_findLowest_52 : decode cX1_findLowest 52 = .ok (.iconst 0, 1) := by decide +kernel
theorem dX1_findLowest_53 : decode cX1_findLowest 53 = .ok (.ireturn, 1) := by decide +kernel
abbrev wcX1_findLowest : List Cond := .code yX1_findLowest cX1_findLowest 2 (some .boolean) :: wsL_law
def jX1_findLowest_39 (rec : hs_S → Option (Nat × hs_S)) (v0 : Nat) (v1 : Int32) (g : hs_S) : Option (Nat × hs_S) :=
  if hs_kd g v0 = 1 then
  rec (hs_wI g v0 2 ((hs_I g v0 2) + (1 : Int32)))
  else none
def lX1_findLowest_0 : Nat → Nat → Int32 → hs_S → Option (Nat × hs_S)
  | 0, _, _, _ => none
  | n + 1, v0, v1, g =>
    if hs_kd g v0 = 1 then
    if v1 ≤ (hs_I g v0 2) then (
      some (0, g)
    ) else (
      if ¬ (hs_R g v0 0) = 0 then
      hs_bd (fX9_at ((hs_R g v0 0) - 1) (hs_I g v0 2) g) fun r4 g3 =>
      if r4 = (-1 : Int32) then (
        jX1_findLowest_39 (fun  g => lX1_findLowest_0 n v0 v1 g) v0 v1 g3
      ) else (
        if hs_kd g3 v0 = 1 then
        if ¬ (hs_R g3 v0 1) = 0 then
        hs_bd (fX9_at ((hs_R g3 v0 1) - 1) (hs_I g3 v0 2) g3) fun r10 g9 =>
        if r10 = 0 then (
          some (1, g9)
        ) else (
          jX1_findLowest_39 (fun  g => lX1_findLowest_0 n v0 v1 g) v0 v1 g9
        )
        else none else none
      )
      else none
    )
    else none
theorem lX1_findLowest_0_s (n : Nat) (v0 : Nat) (v1 : Int32) (g : hs_S) : lX1_findLowest_0 (n + 1) v0 v1 g =
    if hs_kd g v0 = 1 then
    if v1 ≤ (hs_I g v0 2) then (
      some (0, g)
    ) else (
      if ¬ (hs_R g v0 0) = 0 then
      hs_bd (fX9_at ((hs_R g v0 0) - 1) (hs_I g v0 2) g) fun r4 g3 =>
      if r4 = (-1 : Int32) then (
        jX1_findLowest_39 (fun  g => lX1_findLowest_0 n v0 v1 g) v0 v1 g3
      ) else (
        if hs_kd g3 v0 = 1 then
        if ¬ (hs_R g3 v0 1) = 0 then
        hs_bd (fX9_at ((hs_R g3 v0 1) - 1) (hs_I g3 v0 2) g3) fun r10 g9 =>
        if r10 = 0 then (
          some (1, g9)
        ) else (
          jX1_findLowest_39 (fun  g => lX1_findLowest_0 n v0 v1 g) v0 v1 g9
        )
        else none else none
      )
      else none
    )
    else none := rfl
def fX1_findLowest (v0 : Nat) (v1 : Int32) (g : hs_S) : Option (Int32 × hs_S) :=
  hs_bd (lX1_findLowest_0 hs_N v0 v1 g) fun k12 g13 =>
  if k12 = 0 then (
    some ((0 : Int32), g13)
  ) else (
    some ((1 : Int32), g13)
  )
abbrev rmX1_findLowest : Room := { frames := 1, cells := 0, slots := 0, locals := 21 }
set_option maxHeartbeats 4000000 in
set_option maxRecDepth 100000 in
theorem wX1_findLowest_j39 {p : Program} {l : Launch} {e : Env} {s : State} {m : MethodId} {args : Array Value} {below : List Frame} {meth : Method} {c : Code} {B : Nat} {D : va_G} {E : Nat → ClassId} (hX : hs_cx cX1_findLowest (some .boolean) 2 RX1 wcX1_findLowest p s m args meth c D E) {Q : State → Prop} {o : Nat × hs_S} {rec : hs_S → Option (Nat × hs_S)} {v0 : Nat} {v1 : Int32}  (hrec : ∀  (g : hs_S) (H : Heap) (locs : List Loc) (ls : Array Slot), rec  g = some o → hs_P B D E g H → hs_Sx B s.heap H locs → lv_has ls 2 [(0, .ref (B + v0)), (1, .int v1)] → W p l e rmX1_findLowest s m args below meth c H locs 0 0 Q (F0 m 0 ls [])) (hex0 : o.1 = 0 → ∀ (H : Heap) (locs : List Loc) (ls : Array Slot), hs_P B D E (o.2) H → hs_Sx B s.heap H locs → lv_has ls 2 [] → W p l e rmX1_findLowest s m args below meth c H locs 0 0 Q (F0 m 52 ls [])) (hex1 : o.1 = 1 → ∀ (H : Heap) (locs : List Loc) (ls : Array Slot), hs_P B D E (o.2) H → hs_Sx B s.heap H locs → lv_has ls 2 [] → W p l e rmX1_findLowest s m args below meth c H locs 0 0 Q (F0 m 37 ls [])) {g : hs_S} {H : Heap} {locs : List Loc} {ls : Array Slot} (hf : jX1_findLowest_39 rec v0 v1 g = some o) (hP : hs_P B D E g H) (hS : hs_Sx B s.heap H locs) (hl : lv_has ls 2 [(0, .ref (B + v0)), (1, .int v1)]) : W p l e rmX1_findLowest s m args below meth c H locs 0 0 Q (F0 m 39 ls []) := by
  obtain ⟨hx, hb, hr, hml, hown, hts, hlocks, hK⟩ := id hX
  unfold jX1_findLowest_39 at hf
  refine lv_aload_n hx hb dX1_findLowest_39 rfl (lv_at hl 0 rfl) ?_
  refine lv_dup hx hb dX1_findLowest_40 rfl ?_
  obtain ⟨h6, hf⟩ := hs_ck hf
  refine hs_geti (C := RX1) (T := TX1) (N := 3) hx hb hts (fun w h => List.mem_cons_of_mem _ (inlX1 w h)) hown hK.1 hP h6 (by decide) rfl 2 (by decide) (hts _ (List.mem_cons_of_mem _ wq341)) (fun _ h => h) rfl dX1_findLowest_41 ?_
  refine lv_iconst (v := 1) hx hb dX1_findLowest_44 (by decide) ?_
  refine lv_iadd hx hb dX1_findLowest_45 ?_
  refine hs_puti (C := RX1) (T := TX1) (N := 3) hx hb hts (fun w h => List.mem_cons_of_mem _ (inlX1 w h)) tyX1 tyX1_ok nmX1 hown hK.1 hP hS h6 (by decide) rfl 2 (by decide) (hts _ (List.mem_cons_of_mem _ wq341)) (fun _ h => h) (Or.inl rfl) rfl rfl rfl dX1_findLowest_46 (fun H locs hP hS => ?_)
  refine lv_goto (tgt := 0) hx hb dX1_findLowest_49 (by decide) ?_
  exact hrec  _ _ _ _ hf hP hS (lv_sub hl [0, 1] rfl)

set_option maxHeartbeats 4000000 in
set_option maxRecDepth 100000 in
theorem wX1_findLowest_0 {p : Program} {l : Launch} {e : Env} {s : State} {m : MethodId} {args : Array Value} {below : List Frame} {meth : Method} {c : Code} {B : Nat} {D : va_G} {E : Nat → ClassId} (hX : hs_cx cX1_findLowest (some .boolean) 2 RX1 wcX1_findLowest p s m args meth c D E) {Q : State → Prop} {o : Nat × hs_S} {v0 : Nat} {v1 : Int32} (hex0 : o.1 = 0 → ∀ (H : Heap) (locs : List Loc) (ls : Array Slot), hs_P B D E (o.2) H → hs_Sx B s.heap H locs → lv_has ls 2 [] → W p l e rmX1_findLowest s m args below meth c H locs 0 0 Q (F0 m 52 ls [])) (hex1 : o.1 = 1 → ∀ (H : Heap) (locs : List Loc) (ls : Array Slot), hs_P B D E (o.2) H → hs_Sx B s.heap H locs → lv_has ls 2 [] → W p l e rmX1_findLowest s m args below meth c H locs 0 0 Q (F0 m 37 ls [])) : ∀ (n : Nat)  (g : hs_S), lX1_findLowest_0 n v0 v1 g = some o → ∀ (H : Heap) (locs : List Loc) (ls : Array Slot), hs_P B D E g H → hs_Sx B s.heap H locs → lv_has ls 2 [(0, .ref (B + v0)), (1, .int v1)] → W p l e rmX1_findLowest s m args below meth c H locs 0 0 Q (F0 m 0 ls []) := by
  obtain ⟨hx, hb, hr, hml, hown, hts, hlocks, hK⟩ := id hX
  intro n
  induction n with
  | zero =>
    intro g hf
    cases hf
  | succ n ih =>
    intro g hf H locs ls hP hS hl
    replace hf := (lX1_findLowest_0_s n v0 v1 g).symm.trans hf
    refine lv_aload_n hx hb dX1_findLowest_0 rfl (lv_at hl 0 rfl) ?_
    obtain ⟨h1, hf⟩ := hs_ck hf
    refine hs_geti (C := RX1) (T := TX1) (N := 3) hx hb hts (fun w h => List.mem_cons_of_mem _ (inlX1 w h)) hown hK.1 hP h1 (by decide) rfl 2 (by decide) (hts _ (List.mem_cons_of_mem _ wq341)) (fun _ h => h) rfl dX1_findLowest_1 ?_
    refine lv_iload_n hx hb dX1_findLowest_4 rfl (lv_at hl 1 rfl) ?_
    refine lv_icmp_ge (tgt := 52) hx hb dX1_findLowest_5 (by decide) (fun hc => ?_) (fun hc => ?_)
    · replace hf := hs_t hf hc
      obtain rfl := Option.some.inj hf
      exact hex0 rfl _ _ _ hP hS (lv_sub hl [] rfl)
    · replace hf := hs_f hf hc
      refine lv_aload_n hx hb dX1_findLowest_8 rfl (lv_at hl 0 rfl) ?_
      obtain ⟨h2, hf⟩ := hs_ck hf
      refine hs_getr (C := RX1) (T := TX1) (N := 3) hx hb hts (fun w h => List.mem_cons_of_mem _ (inlX1 w h)) hown hK.1 hP h1 (by decide) rfl 0 (by decide) (hts _ (List.mem_cons_of_mem _ wq80)) (fun _ h => h) rfl h2 dX1_findLowest_9 ?_
      refine lv_aload_n hx hb dX1_findLowest_12 rfl (lv_at hl 0 rfl) ?_
      refine hs_geti (C := RX1) (T := TX1) (N := 3) hx hb hts (fun w h => List.mem_cons_of_mem _ (inlX1 w h)) hown hK.1 hP h1 (by decide) rfl 2 (by decide) (hts _ (List.mem_cons_of_mem _ wq341)) (fun _ h => h) rfl dX1_findLowest_13 ?_
      obtain ⟨r4, g3, h5, hf⟩ := hs_bd_some hf
      refine hs_calli (va_runS (As := [.ref (B + ((hs_R g v0 0) - 1)), .int (hs_I g v0 2)]) (rest := []) ⟨hx, hb, hml, hown, hts⟩ (ctX9_at l B D E ((hs_R g v0 0) - 1) (hs_I g v0 2) g _ h5) (va_cwS 2 hts (hs_gS (fun _ h => List.mem_cons_of_mem _ h) wq352 wq193 wq68 wq194) rfl rfl rfl (by decide +kernel) ⟨Nat.le_of_ble_eq_true rfl, Nat.le_of_ble_eq_true rfl⟩) (hs_pre hP hK) rfl rfl hl.1 rfl (lv_room (Nat.le_of_ble_eq_true rfl)) dX1_findLowest_16 ⟨(Nat.le_of_ble_eq_true rfl), (Nat.le_of_ble_eq_true rfl)⟩) hS (fun H locs hP hS => ?_)
      refine lv_iconst (v := -1) hx hb dX1_findLowest_19 (by decide) ?_
      refine lv_icmp_eq (tgt := 39) hx hb dX1_findLowest_20 (by decide) (fun hc => ?_) (fun hc => ?_)
      · replace hf := hs_t hf hc
        exact wX1_findLowest_j39 hX (fun  g H locs ls hf hP hS hl => ih  g hf H locs ls hP hS hl) hex0 hex1 hf hP hS (lv_sub hl [0, 1] rfl)
      · replace hf := hs_f hf hc
        refine lv_aload_n hx hb dX1_findLowest_23 rfl (lv_at hl 0 rfl) ?_
        obtain ⟨h7, hf⟩ := hs_ck hf
        obtain ⟨h8, hf⟩ := hs_ck hf
        refine hs_getr (C := RX1) (T := TX1) (N := 3) hx hb hts (fun w h => List.mem_cons_of_mem _ (inlX1 w h)) hown hK.1 hP h7 (by decide) rfl 1 (by decide) (hts _ (List.mem_cons_of_mem _ wq81)) (fun _ h => h) rfl h8 dX1_findLowest_24 ?_
        refine lv_aload_n hx hb dX1_findLowest_27 rfl (lv_at hl 0 rfl) ?_
        refine hs_geti (C := RX1) (T := TX1) (N := 3) hx hb hts (fun w h => List.mem_cons_of_mem _ (inlX1 w h)) hown hK.1 hP h7 (by decide) rfl 2 (by decide) (hts _ (List.mem_cons_of_mem _ wq341)) (fun _ h => h) rfl dX1_findLowest_28 ?_
        obtain ⟨r10, g9, h11, hf⟩ := hs_bd_some hf
        refine hs_calli (va_runS (As := [.ref (B + ((hs_R g3 v0 1) - 1)), .int (hs_I g3 v0 2)]) (rest := []) ⟨hx, hb, hml, hown, hts⟩ (ctX9_at l B D E ((hs_R g3 v0 1) - 1) (hs_I g3 v0 2) g3 _ h11) (va_cwS 2 hts (hs_gS (fun _ h => List.mem_cons_of_mem _ h) wq352 wq193 wq68 wq194) rfl rfl rfl (by decide +kernel) ⟨Nat.le_of_ble_eq_true rfl, Nat.le_of_ble_eq_true rfl⟩) (hs_pre hP hK) rfl rfl hl.1 rfl (lv_room (Nat.le_of_ble_eq_true rfl)) dX1_findLowest_31 ⟨(Nat.le_of_ble_eq_true rfl), (Nat.le_of_ble_eq_true rfl)⟩) hS (fun H locs hP hS => ?_)
        refine lv_if_ne (tgt := 39) hx hb dX1_findLowest_34 (by decide) (fun hc => ?_) (fun hc => ?_)
        · replace hf := hs_f hf hc
          exact wX1_findLowest_j39 hX (fun  g H locs ls hf hP hS hl => ih  g hf H locs ls hP hS hl) hex0 hex1 hf hP hS (lv_sub hl [0, 1] rfl)
        · replace hf := hs_t hf hc
          obtain rfl := Option.some.inj hf
          exact hex1 rfl _ _ _ hP hS (lv_sub hl [] rfl)

set_option maxHeartbeats 4000000 in
set_option maxRecDepth 100000 in
theorem ctX1_findLowest (l : Launch) (B : Nat) (D : va_G) (E : Nat → ClassId) (v0 : Nat) (v1 : Int32) (g : hs_S) (o : Int32 × hs_S) (hf : fX1_findLowest v0 v1 g = some o) : Met l yX1_findLowest wcX1_findLowest rmX1_findLowest (hs_Pc B D E g [.ref (B + v0), .int v1]) (hs_Qi B D E o) (0) (0) (hs_F B) := by
  refine Met.ofW (cc := cX1_findLowest) (maxL := 2) (ret := (some .boolean)) (by decide) rfl ?_
  intro p e s m args below meth c s₁ Bd hml hv
  obtain ⟨rfl, hP, hK⟩ := hv
  have hx := Bd.exec
  have hb := Bd.bytes
  have hr := Bd.returns
  have hts := atoms_spec (ws := wcX1_findLowest) Bd.pre
  have hown : s.vm.findClass RX1 = some m.cls := findClass_of_methodNamed Bd.named
  have hlocks := Bd.notSynchronized
  have hS : hs_Sx B s.heap s.heap [] := va_S.rf
  have hX : hs_cx cX1_findLowest (some .boolean) 2 RX1 wcX1_findLowest p s m (List.toArray [.ref (B + v0), .int v1]) meth c D E := ⟨hx, hb, hr, hml, hown, hts, hlocks, hK⟩
  have hl := lv_entry ([.ref (B + v0), .int v1]) (n := 2) (Nat.le_of_ble_eq_true rfl)
  rw [lg_entry_eq]
  generalize (lg_sl ([.ref (B + v0), .int v1]) ++ List.replicate (2 - (lg_sl ([.ref (B + v0), .int v1])).length) Slot.unset).toArray = ls at hl ⊢
  have hl : lv_has ls 2 [(0, .ref (B + v0)), (1, .int v1)] := hl
  have hP : hs_P B D E g s.heap := hP
  unfold fX1_findLowest at hf
  obtain ⟨k12, g13, h14, hf⟩ := hs_bd_some hf
  refine wX1_findLowest_0 hX (fun hlab H locs ls hP hS hl => ?_) (fun hlab H locs ls hP hS hl => ?_) hs_N _ h14 _ _ _ hP hS (lv_sub hl [0, 1] rfl)
  · replace hlab : k12 = 0 := hlab
    replace hf := hs_t hf hlab
    refine lv_iconst (v := 0) hx hb dX1_findLowest_52 (by decide) ?_
    exact hs_iret hx hb hr hlocks (hs_01_nar (rfl)) hK hP hS hf dX1_findLowest_53
  · replace hlab : k12 = 1 := hlab
    replace hf := hs_f hf (by rw [hlab]; decide)
    refine lv_iconst (v := 1) hx hb dX1_findLowest_37 (by decide) ?_
    exact hs_iret hx hb hr hlocks (hs_01_nar (rfl)) hK hP hS hf dX1_findLowest_38

theorem dX4_takes_0 : decode cX4_takes 0 = .ok (.iload_n 0, 1) := by decide +kernel
theorem dX4_takes_1 : decode cX4_takes 1 = .ok (.lookupswitch 79 #[(46, 75), (54, 75), (79, 77), (87, 75), (89, 75), (116, 75), (172, 75), (188, 75)], 75) := by decide +kernel
theorem dX4_takes_76 : decode cX4_takes 76 = .ok (.iconst 1, 1) := by decide +kernel
theorem dX4_takes_77 : decode cX4_takes 77 = .ok (.ireturn, 1) := by decide +kernel
theorem dX4_takes_78 : decode cX4_takes 78 = .ok (.iconst 2, 1) := by decide +kernel
theorem dX4_takes_79 : decode cX4_takes 79 = .ok (.ireturn, 1) := by decide +kernel
theorem dX4_takes_80 : decode cX4_takes 80 = .ok (.iload_n 0, 1) := by decide +kernel
theorem dX4_takes_81 : decode cX4_takes 81 = .ok (.invokestatic 7, 3) := by decide +kernel
theorem dX4_takes_84 : decode cX4_takes 84 = .ok (.ifCond .eq 7, 3) := by decide +kernel
theorem dX4_takes_87 : decode cX4_takes 87 = .ok (.iconst 2, 1) := by decide +kernel
theorem dX4_takes_88 : decode cX4_takes 88 = .ok (.goto 15, 3) := by decide +kernel
theorem dX4_takes_91 : decode cX4_takes 91 = .ok (.iload_n 0, 1) := by decide +kernel
theorem dX4_takes_92 : decode cX4_takes 92 = .ok (.invokestatic 13, 3) := by decide +kernel
theorem dX4_takes_95 : decode cX4_takes 95 = .ok (.ifCond .eq 7, 3) := by decide +kernel
theorem dX4_takes_98 : decode cX4_takes 98 = .ok (.iconst 1, 1) := by decide +kernel
theorem dX4_takes_99 : decode cX4_takes 99 = .ok (.goto 4, 3) := by decide +kernel
theorem dX4_takes_102 : decode cX4_takes 102 = .ok (.iconst 0, 1) := by decide +kernel
theorem dX4_takes_103 : decode cX4_takes 103 = .ok (.ireturn, 1) := by decide +kernel
abbrev wcX4_takes : List Cond := .code yX4_takes cX4_takes 1 (some .int) :: wsL_law
def fX4_takes (v0 : Int32) (g : hs_S) : Option (Int32 × hs_S) :=
  if v0 = (46 : Int32) then (
    some ((1 : Int32), g)
  ) else (
  if v0 = (54 : Int32) then (
    some ((1 : Int32), g)
  ) else (
  if v0 = (79 : Int32) then (
    some ((2 : Int32), g)
  ) else (
  if v0 = (87 : Int32) then (
    some ((1 : Int32), g)
  ) else (
  if v0 = (89 : Int32) then (
    some ((1 : Int32), g)
  ) else (
  if v0 = (116 : Int32) then (
    some ((1 : Int32), g)
  ) else (
  if v0 = (172 : Int32) then (
    some ((1 : Int32), g)
  ) else (
  if v0 = (188 : Int32) then (
    some ((1 : Int32), g)
  ) else (
    hs_bd (fX4_isOfTwo v0 g) fun r2 g1 =>
    if r2 = 0 then (
      hs_bd (fX4_isBranch v0 g1) fun r5 g4 =>
      if r5 = 0 then (
        some ((0 : Int32), g4)
      ) else (
        some ((1 : Int32), g4)
      )
    ) else (
      some ((2 : Int32), g1)
    )
  ))))))))
abbrev rmX4_takes : Room := { frames := 1, cells := 0, slots := 0, locals := 20 }
set_option maxHeartbeats 4000000 in
set_option maxRecDepth 100000 in
theorem ctX4_takes (l : Launch) (B : Nat) (D : va_G) (E : Nat → ClassId) (v0 : Int32) (g : hs_S) (o : Int32 × hs_S) (hf : fX4_takes v0 g = some o) : Met l yX4_takes wcX4_takes rmX4_takes (hs_Pc B D E g [.int v0]) (hs_Qi B D E o) (0) (0) (hs_F B) := by
  refine Met.ofW (cc := cX4_takes) (maxL := 1) (ret := (some .int)) (by decide) rfl ?_
  intro p e s m args below meth c s₁ Bd hml hv
  obtain ⟨rfl, hP, hK⟩ := hv
  have hx := Bd.exec
  have hb := Bd.bytes
  have hr := Bd.returns
  have hts := atoms_spec (ws := wcX4_takes) Bd.pre
  have hown : s.vm.findClass RX4 = some m.cls := findClass_of_methodNamed Bd.named
  have hlocks := Bd.notSynchronized
  have hS : hs_Sx B s.heap s.heap [] := va_S.rf
  have hX : hs_cx cX4_takes (some .int) 1 RX4 wcX4_takes p s m (List.toArray [.int v0]) meth c D E := ⟨hx, hb, hr, hml, hown, hts, hlocks, hK⟩
  have hl := lv_entry ([.int v0]) (n := 1) (Nat.le_of_ble_eq_true rfl)
  rw [lg_entry_eq]
  generalize (lg_sl ([.int v0]) ++ List.replicate (1 - (lg_sl ([.int v0])).length) Slot.unset).toArray = ls at hl ⊢
  have hl : lv_has ls 1 [(0, .int v0)] := hl
  have hP : hs_P B D E g s.heap := hP
  unfold fX4_takes at hf
  refine lv_iload_n hx hb dX4_takes_0 rfl (lv_at hl 0 rfl) ?_
  by_cases hc : v0 = (46 : Int32)
  · replace hf := hs_t hf hc
    refine lv_lookup (off := 75) (tgt := 76) hx hb dX4_takes_1 (by decide +kernel) (by rw [hc]; first | done | decide +kernel) (by decide) ?_
    refine lv_iconst (v := 1) hx hb dX4_takes_76 (by decide) ?_
    exact hs_iret hx hb hr hlocks rfl hK hP hS hf dX4_takes_77
  have hn0 := hc
  replace hf := hs_f hf hc
  clear hc
  by_cases hc : v0 = (54 : Int32)
  · replace hf := hs_t hf hc
    refine lv_lookup (off := 75) (tgt := 76) hx hb dX4_takes_1 (by decide +kernel) (by rw [hc]; first | done | decide +kernel) (by decide) ?_
    refine lv_iconst (v := 1) hx hb dX4_takes_76 (by decide) ?_
    exact hs_iret hx hb hr hlocks rfl hK hP hS hf dX4_takes_77
  have hn1 := hc
  replace hf := hs_f hf hc
  clear hc
  by_cases hc : v0 = (79 : Int32)
  · replace hf := hs_t hf hc
    refine lv_lookup (off := 77) (tgt := 78) hx hb dX4_takes_1 (by decide +kernel) (by rw [hc]; first | done | decide +kernel) (by decide) ?_
    refine lv_iconst (v := 2) hx hb dX4_takes_78 (by decide) ?_
    exact hs_iret hx hb hr hlocks rfl hK hP hS hf dX4_takes_79
  have hn2 := hc
  replace hf := hs_f hf hc
  clear hc
  by_cases hc : v0 = (87 : Int32)
  · replace hf := hs_t hf hc
    refine lv_lookup (off := 75) (tgt := 76) hx hb dX4_takes_1 (by decide +kernel) (by rw [hc]; first | done | decide +kernel) (by decide) ?_
    refine lv_iconst (v := 1) hx hb dX4_takes_76 (by decide) ?_
    exact hs_iret hx hb hr hlocks rfl hK hP hS hf dX4_takes_77
  have hn3 := hc
  replace hf := hs_f hf hc
  clear hc
  by_cases hc : v0 = (89 : Int32)
  · replace hf := hs_t hf hc
    refine lv_lookup (off := 75) (tgt := 76) hx hb dX4_takes_1 (by decide +kernel) (by rw [hc]; first | done | decide +kernel) (by decide) ?_
    refine lv_iconst (v := 1) hx hb dX4_takes_76 (by decide) ?_
    exact hs_iret hx hb hr hlocks rfl hK hP hS hf dX4_takes_77
  have hn4 := hc
  replace hf := hs_f hf hc
  clear hc
  by_cases hc : v0 = (116 : Int32)
  · replace hf := hs_t hf hc
    refine lv_lookup (off := 75) (tgt := 76) hx hb dX4_takes_1 (by decide +kernel) (by rw [hc]; first | done | decide +kernel) (by decide) ?_
    refine lv_iconst (v := 1) hx hb dX4_takes_76 (by decide) ?_
    exact hs_iret hx hb hr hlocks rfl hK hP hS hf dX4_takes_77
  have hn5 := hc
  replace hf := hs_f hf hc
  clear hc
  by_cases hc : v0 = (172 : Int32)
  · replace hf := hs_t hf hc
    refine lv_lookup (off := 75) (tgt := 76) hx hb dX4_takes_1 (by decide +kernel) (by rw [hc]; first | done | decide +kernel) (by decide) ?_
    refine lv_iconst (v := 1) hx hb dX4_takes_76 (by decide) ?_
    exact hs_iret hx hb hr hlocks rfl hK hP hS hf dX4_takes_77
  have hn6 := hc
  replace hf := hs_f hf hc
  clear hc
  by_cases hc : v0 = (188 : Int32)
  · replace hf := hs_t hf hc
    refine lv_lookup (off := 75) (tgt := 76) hx hb dX4_takes_1 (by decide +kernel) (by rw [hc]; first | done | decide +kernel) (by decide) ?_
    refine lv_iconst (v := 1) hx hb dX4_takes_76 (by decide) ?_
    exact hs_iret hx hb hr hlocks rfl hK hP hS hf dX4_takes_77
  have hn7 := hc
  replace hf := hs_f hf hc
  clear hc
  refine lv_lookup (off := 79) (tgt := 80) hx hb dX4_takes_1 (by decide +kernel) (by simp only [Array.toList]; rw [lv_osw (a := 46) hn0 rfl, lv_osw (a := 54) hn1 rfl, lv_osw (a := 79) hn2 rfl, lv_osw (a := 87) hn3 rfl, lv_osw (a := 89) hn4 rfl, lv_osw (a := 116) hn5 rfl, lv_osw (a := 172) hn6 rfl, lv_osw (a := 188) hn7 rfl]; first | done | rfl) (by decide) ?_
  refine lv_iload_n hx hb dX4_takes_80 rfl (lv_at hl 0 rfl) ?_
  obtain ⟨r2, g1, h3, hf⟩ := hs_bd_some hf
  refine hs_calli (va_runS (As := [.int v0]) (rest := []) ⟨hx, hb, hml, hown, hts⟩ (ctX4_isOfTwo l B D E v0 g _ h3) (va_cwS 1 hts (hs_gS (fun _ h => List.mem_cons_of_mem _ h) wq260 wq261 wq258 wq262) rfl rfl rfl (by decide +kernel) ⟨Nat.le_of_ble_eq_true rfl, Nat.le_of_ble_eq_true rfl⟩) (hs_pre hP hK) rfl rfl hl.1 rfl (lv_room (Nat.le_of_ble_eq_true rfl)) dX4_takes_81 ⟨(Nat.le_of_ble_eq_true rfl), (Nat.le_of_ble_eq_true rfl)⟩) hS (fun H locs hP hS => ?_)
  refine lv_if_eq (tgt := 91) hx hb dX4_takes_84 (by decide) (fun hc => ?_) (fun hc => ?_)
  · replace hf := hs_t hf hc
    refine lv_iload_n hx hb dX4_takes_91 rfl (lv_at hl 0 rfl) ?_
    obtain ⟨r5, g4, h6, hf⟩ := hs_bd_some hf
    refine hs_calli (va_runS (As := [.int v0]) (rest := []) ⟨hx, hb, hml, hown, hts⟩ (ctX4_isBranch l B D E v0 g1 _ h6) (va_cwS 1 hts (hs_gS (fun _ h => List.mem_cons_of_mem _ h) wq263 wq264 wq258 wq265) rfl rfl rfl (by decide +kernel) ⟨Nat.le_of_ble_eq_true rfl, Nat.le_of_ble_eq_true rfl⟩) (hs_pre hP hK) rfl rfl hl.1 rfl (lv_room (Nat.le_of_ble_eq_true rfl)) dX4_takes_92 ⟨(Nat.le_of_ble_eq_true rfl), (Nat.le_of_ble_eq_true rfl)⟩) hS (fun H locs hP hS => ?_)
    refine lv_if_eq (tgt := 102) hx hb dX4_takes_95 (by decide) (fun hc => ?_) (fun hc => ?_)
    · replace hf := hs_t hf hc
      refine lv_iconst (v := 0) hx hb dX4_takes_102 (by decide) ?_
      exact hs_iret hx hb hr hlocks rfl hK hP hS hf dX4_takes_103
    · replace hf := hs_f hf hc
      refine lv_iconst (v := 1) hx hb dX4_takes_98 (by decide) ?_
      refine lv_goto (tgt := 103) hx hb dX4_takes_99 (by decide) ?_
      exact hs_iret hx hb hr hlocks rfl hK hP hS hf dX4_takes_103
  · replace hf := hs_f hf hc
    refine lv_iconst (v := 2) hx hb dX4_takes_87 (by decide) ?_
    refine lv_goto (tgt := 103) hx hb dX4_takes_88 (by decide) ?_
    exact hs_iret hx hb hr hlocks rfl hK hP hS hf dX4_takes_103

theorem dX4_gives_0 : decode cX4_gives 0 = .ok (.iload_n 0, 1) := by decide +kernel
theorem dX4_gives_1 : decode cX4_gives 1 = .ok (.lookupswitch 79 #[(16, 75), (17, 75), (21, 75), (46, 75), (89, 77), (116, 75), (184, 75), (190, 75)], 75) := by decide +kernel
theorem dX4_gives_76 : decode cX4_gives 76 = .ok (.iconst 1, 1) := by decide +kernel
theorem dX4_gives_77 : decode cX4_gives 77 = .ok (.ireturn, 1) := by decide +kernel
theorem dX4_gives_78 : decode cX4_gives 78 = .ok (.iconst 2, 1) := by decide +kernel
theorem dX4_gives_79 : decode cX4_gives 79 = .ok (.ireturn, 1) := by decide +kernel
theorem dX4_gives_80 : decode cX4_gives 80 = .ok (.iload_n 0, 1) := by decide +kernel
theorem dX4_gives_81 : decode cX4_gives 81 = .ok (.invokestatic 7, 3) := by decide +kernel
theorem dX4_gives_84 : decode cX4_gives 84 = .ok (.ifCond .eq 7, 3) := by decide +kernel
theorem dX4_gives_87 : decode cX4_gives 87 = .ok (.iconst 1, 1) := by decide +kernel
theorem dX4_gives_88 : decode cX4_gives 88 = .ok (.goto 4, 3) := by decide +kernel
theorem dX4_gives_91 : decode cX4_gives 91 = .ok (.iconst 0, 1) := by decide +kernel
theorem dX4_gives_92 : decode cX4_gives 92 = .ok (.ireturn, 1) := by decide +kernel
abbrev wcX4_gives : List Cond := .code yX4_gives cX4_gives 1 (some .int) :: wsL_law
def fX4_gives (v0 : Int32) (g : hs_S) : Option (Int32 × hs_S) :=
  if v0 = (16 : Int32) then (
    some ((1 : Int32), g)
  ) else (
  if v0 = (17 : Int32) then (
    some ((1 : Int32), g)
  ) else (
  if v0 = (21 : Int32) then (
    some ((1 : Int32), g)
  ) else (
  if v0 = (46 : Int32) then (
    some ((1 : Int32), g)
  ) else (
  if v0 = (89 : Int32) then (
    some ((2 : Int32), g)
  ) else (
  if v0 = (116 : Int32) then (
    some ((1 : Int32), g)
  ) else (
  if v0 = (184 : Int32) then (
    some ((1 : Int32), g)
  ) else (
  if v0 = (190 : Int32) then (
    some ((1 : Int32), g)
  ) else (
    hs_bd (fX4_isOfTwo v0 g) fun r2 g1 =>
    if r2 = 0 then (
      some ((0 : Int32), g1)
    ) else (
      some ((1 : Int32), g1)
    )
  ))))))))
abbrev rmX4_gives : Room := { frames := 1, cells := 0, slots := 0, locals := 20 }
set_option maxHeartbeats 4000000 in
set_option maxRecDepth 100000 in
theorem ctX4_gives (l : Launch) (B : Nat) (D : va_G) (E : Nat → ClassId) (v0 : Int32) (g : hs_S) (o : Int32 × hs_S) (hf : fX4_gives v0 g = some o) : Met l yX4_gives wcX4_gives rmX4_gives (hs_Pc B D E g [.int v0]) (hs_Qi B D E o) (0) (0) (hs_F B) := by
  refine Met.ofW (cc := cX4_gives) (maxL := 1) (ret := (some .int)) (by decide) rfl ?_
  intro p e s m args below meth c s₁ Bd hml hv
  obtain ⟨rfl, hP, hK⟩ := hv
  have hx := Bd.exec
  have hb := Bd.bytes
  have hr := Bd.returns
  have hts := atoms_spec (ws := wcX4_gives) Bd.pre
  have hown : s.vm.findClass RX4 = some m.cls := findClass_of_methodNamed Bd.named
  have hlocks := Bd.notSynchronized
  have hS : hs_Sx B s.heap s.heap [] := va_S.rf
  have hX : hs_cx cX4_gives (some .int) 1 RX4 wcX4_gives p s m (List.toArray [.int v0]) meth c D E := ⟨hx, hb, hr, hml, hown, hts, hlocks, hK⟩
  have hl := lv_entry ([.int v0]) (n := 1) (Nat.le_of_ble_eq_true rfl)
  rw [lg_entry_eq]
  generalize (lg_sl ([.int v0]) ++ List.replicate (1 - (lg_sl ([.int v0])).length) Slot.unset).toArray = ls at hl ⊢
  have hl : lv_has ls 1 [(0, .int v0)] := hl
  have hP : hs_P B D E g s.heap := hP
  unfold fX4_gives at hf
  refine lv_iload_n hx hb dX4_gives_0 rfl (lv_at hl 0 rfl) ?_
  by_cases hc : v0 = (16 : Int32)
  · replace hf := hs_t hf hc
    refine lv_lookup (off := 75) (tgt := 76) hx hb dX4_gives_1 (by decide +kernel) (by rw [hc]; first | done | decide +kernel) (by decide) ?_
    refine lv_iconst (v := 1) hx hb dX4_gives_76 (by decide) ?_
    exact hs_iret hx hb hr hlocks rfl hK hP hS hf dX4_gives_77
  have hn0 := hc
  replace hf := hs_f hf hc
  clear hc
  by_cases hc : v0 = (17 : Int32)
  · replace hf := hs_t hf hc
    refine lv_lookup (off := 75) (tgt := 76) hx hb dX4_gives_1 (by decide +kernel) (by rw [hc]; first | done | decide +kernel) (by decide) ?_
    refine lv_iconst (v := 1) hx hb dX4_gives_76 (by decide) ?_
    exact hs_iret hx hb hr hlocks rfl hK hP hS hf dX4_gives_77
  have hn1 := hc
  replace hf := hs_f hf hc
  clear hc
  by_cases hc : v0 = (21 : Int32)
  · replace hf := hs_t hf hc
    refine lv_lookup (off := 75) (tgt := 76) hx hb dX4_gives_1 (by decide +kernel) (by rw [hc]; first | done | decide +kernel) (by decide) ?_
    refine lv_iconst (v := 1) hx hb dX4_gives_76 (by decide) ?_
    exact hs_iret hx hb hr hlocks rfl hK hP hS hf dX4_gives_77
  have hn2 := hc
  replace hf := hs_f hf hc
  clear hc
  by_cases hc : v0 = (46 : Int32)
  · replace hf := hs_t hf hc
    refine lv_lookup (off := 75) (tgt := 76) hx hb dX4_gives_1 (by decide +kernel) (by rw [hc]; first | done | decide +kernel) (by decide) ?_
    refine lv_iconst (v := 1) hx hb dX4_gives_76 (by decide) ?_
    exact hs_iret hx hb hr hlocks rfl hK hP hS hf dX4_gives_77
  have hn3 := hc
  replace hf := hs_f hf hc
  clear hc
  by_cases hc : v0 = (89 : Int32)
  · replace hf := hs_t hf hc
    refine lv_lookup (off := 77) (tgt := 78) hx hb dX4_gives_1 (by decide +kernel) (by rw [hc]; first | done | decide +kernel) (by decide) ?_
    refine lv_iconst (v := 2) hx hb dX4_gives_78 (by decide) ?_
    exact hs_iret hx hb hr hlocks rfl hK hP hS hf dX4_gives_79
  have hn4 := hc
  replace hf := hs_f hf hc
  clear hc
  by_cases hc : v0 = (116 : Int32)
  · replace hf := hs_t hf hc
    refine lv_lookup (off := 75) (tgt := 76) hx hb dX4_gives_1 (by decide +kernel) (by rw [hc]; first | done | decide +kernel) (by decide) ?_
    refine lv_iconst (v := 1) hx hb dX4_gives_76 (by decide) ?_
    exact hs_iret hx hb hr hlocks rfl hK hP hS hf dX4_gives_77
  have hn5 := hc
  replace hf := hs_f hf hc
  clear hc
  by_cases hc : v0 = (184 : Int32)
  · replace hf := hs_t hf hc
    refine lv_lookup (off := 75) (tgt := 76) hx hb dX4_gives_1 (by decide +kernel) (by rw [hc]; first | done | decide +kernel) (by decide) ?_
    refine lv_iconst (v := 1) hx hb dX4_gives_76 (by decide) ?_
    exact hs_iret hx hb hr hlocks rfl hK hP hS hf dX4_gives_77
  have hn6 := hc
  replace hf := hs_f hf hc
  clear hc
  by_cases hc : v0 = (190 : Int32)
  · replace hf := hs_t hf hc
    refine lv_lookup (off := 75) (tgt := 76) hx hb dX4_gives_1 (by decide +kernel) (by rw [hc]; first | done | decide +kernel) (by decide) ?_
    refine lv_iconst (v := 1) hx hb dX4_gives_76 (by decide) ?_
    exact hs_iret hx hb hr hlocks rfl hK hP hS hf dX4_gives_77
  have hn7 := hc
  replace hf := hs_f hf hc
  clear hc
  refine lv_lookup (off := 79) (tgt := 80) hx hb dX4_gives_1 (by decide +kernel) (by simp only [Array.toList]; rw [lv_osw (a := 16) hn0 rfl, lv_osw (a := 17) hn1 rfl, lv_osw (a := 21) hn2 rfl, lv_osw (a := 46) hn3 rfl, lv_osw (a := 89) hn4 rfl, lv_osw (a := 116) hn5 rfl, lv_osw (a := 184) hn6 rfl, lv_osw (a := 190) hn7 rfl]; first | done | rfl) (by decide) ?_
  refine lv_iload_n hx hb dX4_gives_80 rfl (lv_at hl 0 rfl) ?_
  obtain ⟨r2, g1, h3, hf⟩ := hs_bd_some hf
  refine hs_calli (va_runS (As := [.int v0]) (rest := []) ⟨hx, hb, hml, hown, hts⟩ (ctX4_isOfTwo l B D E v0 g _ h3) (va_cwS 1 hts (hs_gS (fun _ h => List.mem_cons_of_mem _ h) wq260 wq261 wq258 wq262) rfl rfl rfl (by decide +kernel) ⟨Nat.le_of_ble_eq_true rfl, Nat.le_of_ble_eq_true rfl⟩) (hs_pre hP hK) rfl rfl hl.1 rfl (lv_room (Nat.le_of_ble_eq_true rfl)) dX4_gives_81 ⟨(Nat.le_of_ble_eq_true rfl), (Nat.le_of_ble_eq_true rfl)⟩) hS (fun H locs hP hS => ?_)
  refine lv_if_eq (tgt := 91) hx hb dX4_gives_84 (by decide) (fun hc => ?_) (fun hc => ?_)
  · replace hf := hs_t hf hc
    refine lv_iconst (v := 0) hx hb dX4_gives_91 (by decide) ?_
    exact hs_iret hx hb hr hlocks rfl hK hP hS hf dX4_gives_92
  · replace hf := hs_f hf hc
    refine lv_iconst (v := 1) hx hb dX4_gives_87 (by decide) ?_
    refine lv_goto (tgt := 92) hx hb dX4_gives_88 (by decide) ?_
    exact hs_iret hx hb hr hlocks rfl hK hP hS hf dX4_gives_92

