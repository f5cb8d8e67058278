theorem dX12_jumps_0 : decode cX12_jumps 0 = .ok (.iconst 1, 1) := by decide +kernel
theorem dX12_jumps_1 : decode cX12_jumps 1 = .ok (.istore_n 2, 1) := by decide +kernel
theorem dX12_jumps_2 : decode cX12_jumps 2 = .ok (.iload_n 1, 1) := by decide +kernel
theorem dX12_jumps_3 : decode cX12_jumps 3 = .ok (.sipush 167, 3) := by decide +kernel
theorem dX12_jumps_6 : decode cX12_jumps 6 = .ok (.if_icmp .ge 113, 3) := by decide +kernel
theorem dX12_jumps_9 : decode cX12_jumps 9 = .ok (.aload_n 0, 1) := by decide +kernel
theorem dX12_jumps_10 : decode cX12_jumps 10 = .ok (.invokevirtual 300, 3) := by decide +kernel
theorem dX12_jumps_13 : decode cX12_jumps 13 = .ok (.istore_n 3, 1) := by decide +kernel
theorem dX12_jumps_14 : decode cX12_jumps 14 = .ok (.iload_n 1, 1) := by decide +kernel
theorem dX12_jumps_15 : decode cX12_jumps 15 = .ok (.sipush 153, 3) := by decide +kernel
theorem dX12_jumps_18 : decode cX12_jumps 18 = .ok (.if_icmp .ne 15, 3) := by decide +kernel
theorem dX12_jumps_21 : decode cX12_jumps 21 = .ok (.iload_n 3, 1) := by decide +kernel
theorem dX12_jumps_22 : decode cX12_jumps 22 = .ok (.ifCond .ne 7, 3) := by decide +kernel
theorem dX12_jumps_25 : decode cX12_jumps 25 = .ok (.iconst 1, 1) := by decide +kernel
theorem dX12_jumps_26 : decode cX12_jumps 26 = .ok (.goto 92, 3) := by decide +kernel
theorem dX12_jumps_29 : decode cX12_jumps 29 = .ok (.iconst 0, 1) := by decide +kernel
theorem dX12_jumps_30 : decode cX12_jumps 30 = .ok (.goto 88, 3) := by decide +kernel
theorem dX12_jumps_33 : decode cX12_jumps 33 = .ok (.iload_n 1, 1) := by decide +kernel
theorem dX12_jumps_34 : decode cX12_jumps 34 = .ok (.sipush 154, 3) := by decide +kernel
theorem dX12_jumps_37 : decode cX12_jumps 37 = .ok (.if_icmp .ne 15, 3) := by decide +kernel
theorem dX12_jumps_40 : decode cX12_jumps 40 = .ok (.iload_n 3, 1) := by decide +kernel
theorem dX12_jumps_41 : decode cX12_jumps 41 = .ok (.ifCond .eq 7, 3) := by decide +kernel
theorem dX12_jumps_44 : decode cX12_jumps 44 = .ok (.iconst 1, 1) := by decide +kernel
theorem dX12_jumps_45 : decode cX12_jumps 45 = .ok (.goto 73, 3) := by decide +kernel
theorem dX12_jumps_48 : decode cX12_jumps 48 = .ok (.iconst 0, 1) := by decide +kernel
theorem dX12_jumps_49 : decode cX12_jumps 49 = .ok (.goto 69, 3) := by decide +kernel
theorem dX12_jumps_52 : decode cX12_jumps 52 = .ok (.iload_n 1, 1) := by decide +kernel
theorem dX12_jumps_53 : decode cX12_jumps 53 = .ok (.sipush 155, 3) := by decide +kernel
theorem dX12_jumps_56 : decode cX12_jumps 56 = .ok (.if_icmp .ne 15, 3) := by decide +kernel
theorem dX12_jumps_59 : decode cX12_jumps 59 = .ok (.iload_n 3, 1) := by decide +kernel
theorem dX12_jumps_60 : decode cX12_jumps 60 = .ok (.ifCond .ge 7, 3) := by decide +kernel
theorem dX12_jumps_63 : decode cX12_jumps 63 = .ok (.iconst 1, 1) := by decide +kernel
theorem dX12_jumps_64 : decode cX12_jumps 64 = .ok (.goto 54, 3) := by decide +kernel
theorem dX12_jumps_67 : decode cX12_jumps 67 = .ok (.iconst 0, 1) := by decide +kernel
theorem dX12_jumps_68 : decode cX12_jumps 68 = .ok (.goto 50, 3) := by decide +kernel
theorem dX12_jumps_71 : decode cX12_jumps 71 = .ok (.iload_n 1, 1) := by decide +kernel
theorem dX12_jumps_72 : decode cX12_jumps 72 = .ok (.sipush 156, 3) := by decide +kernel
theorem dX12_jumps_75 : decode cX12_jumps 75 = .ok (.if_icmp .ne 15, 3) := by decide +kernel
theorem dX12_jumps_78 : decode cX12_jumps 78 = .ok (.iload_n 3, 1) := by decide +kernel
theorem dX12_jumps_79 : decode cX12_jumps 79 = .ok (.ifCond .lt 7, 3) := by decide +kernel
theorem dX12_jumps_82 : decode cX12_jumps 82 = .ok (.iconst 1, 1) := by decide +kernel
theorem dX12_jumps_83 : decode cX12_jumps 83 = .ok (.goto 35, 3) := by decide +kernel
theorem dX12_jumps_86 : decode cX12_jumps 86 = .ok (.iconst 0, 1) := by decide +kernel
theorem dX12_jumps_87 : decode cX12_jumps 87 = .ok (.goto 31, 3) := by decide +kernel
theorem dX12_jumps_90 : decode cX12_jumps 90 = .ok (.iload_n 1, 1) := by decide +kernel
theorem dX12_jumps_91 : decode cX12_jumps 91 = .ok (.sipush 157, 3) := by decide +kernel
theorem dX12_jumps_94 : decode cX12_jumps 94 = .ok (.if_icmp .ne 15, 3) := by decide +kernel
theorem dX12_jumps_97 : decode cX12_jumps 97 = .ok (.iload_n 3, 1) := by decide +kernel
theorem dX12_jumps_98 : decode cX12_jumps 98 = .ok (.ifCond .le 7, 3) := by decide +kernel
theorem dX12_jumps_101 : decode cX12_jumps 101 = .ok (.iconst 1, 1) := by decide +kernel
theorem dX12_jumps_102 : decode cX12_jumps 102 = .ok (.goto 16, 3) := by decide +kernel
theorem dX12_jumps_105 : decode cX12_jumps 105 = .ok (.iconst 0, 1) := by decide +kernel
theorem dX12_jumps_106 : decode cX12_jumps 106 = .ok (.goto 12, 3) := by decide +kernel
theorem dX12_jumps_109 : decode cX12_jumps 109 = .ok (.iload_n 3, 1) := by decide +kernel
theorem dX12_jumps_110 : decode cX12_jumps 110 = .ok (.ifCond .gt 7, 3) := by decide +kernel
theorem dX12_jumps_113 : decode cX12_jumps 113 = .ok (.iconst 1, 1) := by decide +kernel
theorem dX12_jumps_114 : decode cX12_jumps 114 = .ok (.goto 4, 3) := by decide +kernel
theorem dX12_jumps_117 : decode cX12_jumps 117 = .ok (.iconst 0, 1) := by decide +kernel
theorem dX12_jumps_118 : decode cX12_jumps 118 = .ok (.istore_n 2, 1) := by decide +kernel
theorem dX12_jumps_119 : decode cX12_jumps 119 = .ok (.aload_n 0, 1) := by decide +kernel
theorem dX12_jumps_120 : decode cX12_jumps 120 = .ok (.getfield 105, 3) := by decide +kernel
theorem dX12_jumps_123 : decode cX12_jumps 123 = .ok (.aload_n 0, 1) := by decide +kernel
theorem dX12_jumps_124 : decode cX12_jumps 124 = .ok (.getfield 254, 3) := by decide +kernel
theorem dX12_jumps_127 : decode cX12_jumps 127 = .ok (.iconst 1, 1) := by decide +kernel
theorem dX12_jumps_128 : decode cX12_jumps 128 = .ok (.isub, 1) := by decide +kernel
theorem dX12_jumps_129 : decode cX12_jumps 129 = .ok (.iaload, 1) := by decide +kernel
theorem dX12_jumps_130 : decode cX12_jumps 130 = .ok (.istore_n 3, 1) := by decide +kernel
theorem dX12_jumps_131 : decode cX12_jumps 131 = .ok (.aload_n 0, 1) := by decide +kernel
theorem dX12_jumps_132 : decode cX12_jumps 132 = .ok (.getfield 105, 3) := by decide +kernel
theorem dX12_jumps_135 : decode cX12_jumps 135 = .ok (.aload_n 0, 1) := by decide +kernel
theorem dX12_jumps_136 : decode cX12_jumps 136 = .ok (.getfield 254, 3) := by decide +kernel
theorem dX12_jumps_139 : decode cX12_jumps 139 = .ok (.iconst 1, 1) := by decide +kernel
theorem dX12_jumps_140 : decode cX12_jumps 140 = .ok (.isub, 1) := by decide +kernel
theorem dX12_jumps_141 : decode cX12_jumps 141 = .ok (.iload_n 2, 1) := by decide +kernel
theorem dX12_jumps_142 : decode cX12_jumps 142 = .ok (.ifCond .eq 32, 3) := by decide +kernel
theorem dX12_jumps_145 : decode cX12_jumps 145 = .ok (.iload_n 1, 1) := by decide +kernel
theorem dX12_jumps_146 : decode cX12_jumps 146 = .ok (.iload_n 3, 1) := by decide +kernel
theorem dX12_jumps_147 : decode cX12_jumps 147 = .ok (.aload_n 0, 1) := by decide +kernel
theorem dX12_jumps_148 : decode cX12_jumps 148 = .ok (.iconst 1, 1) := by decide +kernel
theorem dX12_jumps_149 : decode cX12_jumps 149 = .ok (.invokevirtual 276, 3) := by decide +kernel
theorem dX12_jumps_152 : decode cX12_jumps 152 = .ok (.iload_n 1, 1) := by decide +kernel
theorem dX12_jumps_153 : decode cX12_jumps 153 = .ok (.sipush 168, 3) := by decide +kernel
theorem dX12_jumps_156 : decode cX12_jumps 156 = .ok (.if_icmp .ne 11, 3) := by decide +kernel
theorem dX12_jumps_159 : decode cX12_jumps 159 = .ok (.aload_n 0, 1) := by decide +kernel
theorem dX12_jumps_160 : decode cX12_jumps 160 = .ok (.iconst 2, 1) := by decide +kernel
theorem dX12_jumps_161 : decode cX12_jumps 161 = .ok (.invokevirtual 276, 3) := by decide +kernel
theorem dX12_jumps_164 : decode cX12_jumps 164 = .ok (.goto 4, 3) := by decide +kernel
theorem dX12_jumps_167 : decode cX12_jumps 167 = .ok (.iconst 0, 1) := by decide +kernel
theorem dX12_jumps_168 : decode cX12_jumps 168 = .ok (.invokestatic 165, 3) := by decide +kernel
theorem dX12_jumps_171 : decode cX12_jumps 171 = .ok (.goto 9, 3) := by decide +kernel
theorem dX12_jumps_174 : decode cX12_jumps 174 = .ok (.iload_n 3, 1) := by decide +kernel
theorem dX12_jumps_175 : decode cX12_jumps 175 = .ok (.iload_n 1, 1) := by decide +kernel
theorem dX12_jumps_176 : decode cX12_jumps 176 = .ok (.invokestatic 120, 3) := by decide +kernel
theorem dX12_jumps_179 : decode cX12_jumps 179 = .ok (.iadd, 1) := by decide +kernel
theorem dX12_jumps_180 : decode cX12_jumps 180 = .ok (.iastore, 1) := by decide +kernel
theorem dX12_jumps_181 : decode cX12_jumps 181 = .ok (.return_, 1) := by decide +kernel
abbrev wcX12_jumps : List Cond := .code yX12_jumps cX12_jumps 4 none :: wsL_law
def jX12_jumps_168 (s0 : Int32) (s1 : Int32) (s2 : Int32) (s3 : Int32) (s4 : Int32) (s5 : Nat) (g : hs_S) : Option (hs_S) :=
  hs_bd (fX12_target s3 s2 s1 s0 g) fun r14 g13 =>
  if hs_kd g13 s5 = 100 then
  if hs_in s4 (hs_ln g13 s5) = true then
  some (hs_wI g13 s5 s4.toNatClampNeg r14)
  else none else none
def jX12_jumps_119 (v0 : Nat) (v1 : Int32) (v2 : Int32) (g : hs_S) : Option (hs_S) :=
  if hs_kd g v0 = 10 then
  if ¬ (hs_R g v0 42) = 0 then
  if hs_kd g ((hs_R g v0 42) - 1) = 100 then
  if hs_in ((hs_I g v0 40) - (1 : Int32)) (hs_ln g ((hs_R g v0 42) - 1)) = true then
  if v2 = 0 then (
    hs_bd (fX12_size v1 g) fun r6 g5 =>
    if hs_kd g5 ((hs_R g v0 42) - 1) = 100 then
    if hs_in ((hs_I g v0 40) - (1 : Int32)) (hs_ln g5 ((hs_R g v0 42) - 1)) = true then
    some (hs_wI g5 ((hs_R g v0 42) - 1) ((hs_I g v0 40) - (1 : Int32)).toNatClampNeg ((hs_I g ((hs_R g v0 42) - 1) ((hs_I g v0 40) - (1 : Int32)).toNatClampNeg) + r6))
    else none else none
  ) else (
    hs_bd (fX12_codeAt v0 (1 : Int32) g) fun r11 g10 =>
    if v1 = (168 : Int32) then (
      if hs_kd g10 v0 = 10 then
      hs_bd (fX12_codeAt v0 (2 : Int32) g10) fun r20 g19 =>
      jX12_jumps_168 r20 r11 (hs_I g ((hs_R g v0 42) - 1) ((hs_I g v0 40) - (1 : Int32)).toNatClampNeg) v1 ((hs_I g v0 40) - (1 : Int32)) ((hs_R g v0 42) - 1) g19
      else none
    ) else (
      jX12_jumps_168 (0 : Int32) r11 (hs_I g ((hs_R g v0 42) - 1) ((hs_I g v0 40) - (1 : Int32)).toNatClampNeg) v1 ((hs_I g v0 40) - (1 : Int32)) ((hs_R g v0 42) - 1) g10
    )
  )
  else none else none else none else none
def jX12_jumps_118 (v0 : Nat) (v1 : Int32) (s0 : Int32) (g : hs_S) : Option (hs_S) :=
  jX12_jumps_119 v0 v1 s0 g
def fX12_jumps (v0 : Nat) (v1 : Int32) (g : hs_S) : Option (hs_S) :=
  if (167 : Int32) ≤ v1 then (
    jX12_jumps_119 v0 v1 (1 : Int32) g
  ) else (
    if hs_kd g v0 = 10 then
    hs_bd (fX12_pop v0 g) fun r24 g23 =>
    if v1 = (153 : Int32) then (
      if r24 = 0 then (
        jX12_jumps_118 v0 v1 (1 : Int32) g23
      ) else (
        jX12_jumps_118 v0 v1 (0 : Int32) g23
      )
    ) else (
      if v1 = (154 : Int32) then (
        if r24 = 0 then (
          jX12_jumps_118 v0 v1 (0 : Int32) g23
        ) else (
          jX12_jumps_118 v0 v1 (1 : Int32) g23
        )
      ) else (
        if v1 = (155 : Int32) then (
          if 0 ≤ r24 then (
            jX12_jumps_118 v0 v1 (0 : Int32) g23
          ) else (
            jX12_jumps_118 v0 v1 (1 : Int32) g23
          )
        ) else (
          if v1 = (156 : Int32) then (
            if r24 < 0 then (
              jX12_jumps_118 v0 v1 (0 : Int32) g23
            ) else (
              jX12_jumps_118 v0 v1 (1 : Int32) g23
            )
          ) else (
            if v1 = (157 : Int32) then (
              if r24 ≤ 0 then (
                jX12_jumps_118 v0 v1 (0 : Int32) g23
              ) else (
                jX12_jumps_118 v0 v1 (1 : Int32) g23
              )
            ) else (
              if 0 < r24 then (
                jX12_jumps_118 v0 v1 (0 : Int32) g23
              ) else (
                jX12_jumps_118 v0 v1 (1 : Int32) g23
              )
            )
          )
        )
      )
    )
    else none
  )
abbrev rmX12_jumps : Room := { frames := 2, cells := 0, slots := 0, locals := 43 }
set_option maxHeartbeats 4000000 in
set_option maxRecDepth 100000 in
theorem wX12_jumps_j168 {p : Program} {l : Launch} {e : Env} {s : State} {m : MethodId} {args : Array Value} {below : List Frame} {meth : Method} {c : Code} {B : Nat} {D : va_G} {E : Nat → ClassId} (hX : hs_cx cX12_jumps none 4 RX12 wcX12_jumps p s m args meth c D E) {o : hs_S}  {s0 : Int32} {s1 : Int32} {s2 : Int32} {s3 : Int32} {s4 : Int32} {s5 : Nat}   {g : hs_S} {H : Heap} {locs : List Loc} {ls : Array Slot} (hf : jX12_jumps_168 s0 s1 s2 s3 s4 s5 g = some o) (hP : hs_P B D E g H) (hS : hs_Sx B s.heap H locs) (hl : lv_has ls 4 []) : W p l e rmX12_jumps s m args below meth c H locs 0 0 (MQ below (hs_Qv B D E o) args s 0 0 (hs_F B)) (F0 m 168 ls [.int s0, .int s1, .int s2, .int s3, .int s4, .ref (B + s5)]) := by
  obtain ⟨hx, hb, hr, hml, hown, hts, hlocks, hK⟩ := id hX
  unfold jX12_jumps_168 at hf
  obtain ⟨r14, g13, h15, hf⟩ := hs_bd_some hf
  refine hs_calli (va_runS (As := [.int s3, .int s2, .int s1, .int s0]) (rest := [.int s4, .ref (B + s5)]) ⟨hx, hb, hml, hown, hts⟩ (ctX12_target l B D E s3 s2 s1 s0 g _ h15) (va_cwS 4 hts (hs_gS (fun _ h => List.mem_cons_of_mem _ h) wq433 wq434 wq5 wq435) rfl rfl rfl (by decide +kernel) ⟨Nat.le_of_ble_eq_true rfl, Nat.le_of_ble_eq_true rfl⟩) (hs_pre hP hK) rfl rfl hl.1 rfl (lv_room (Nat.le_of_ble_eq_true rfl)) dX12_jumps_168 ⟨(Nat.le_of_ble_eq_true rfl), (Nat.le_of_ble_eq_true rfl)⟩) hS (fun H locs hP hS => ?_)
  refine lv_goto (tgt := 180) hx hb dX12_jumps_171 (by decide) ?_
  obtain ⟨h16, hf⟩ := hs_ck hf
  obtain ⟨h17, hf⟩ := hs_ck hf
  refine hs_iast hx hb hK.1 hP hS h16 h17 dX12_jumps_180 (fun H locs hP hS => ?_)
  exact hs_vret hx hb hr hlocks hK hP hS hf dX12_jumps_181

set_option maxHeartbeats 4000000 in
set_option maxRecDepth 100000 in
theorem wX12_jumps_j119 {p : Program} {l : Launch} {e : Env} {s : State} {m : MethodId} {args : Array Value} {below : List Frame} {meth : Method} {c : Code} {B : Nat} {D : va_G} {E : Nat → ClassId} (hX : hs_cx cX12_jumps none 4 RX12 wcX12_jumps p s m args meth c D E) {o : hs_S}  {v0 : Nat} {v1 : Int32} {v2 : Int32}   {g : hs_S} {H : Heap} {locs : List Loc} {ls : Array Slot} (hf : jX12_jumps_119 v0 v1 v2 g = some o) (hP : hs_P B D E g H) (hS : hs_Sx B s.heap H locs) (hl : lv_has ls 4 [(0, .ref (B + v0)), (1, .int v1), (2, .int v2)]) : W p l e rmX12_jumps s m args below meth c H locs 0 0 (MQ below (hs_Qv B D E o) args s 0 0 (hs_F B)) (F0 m 119 ls []) := by
  obtain ⟨hx, hb, hr, hml, hown, hts, hlocks, hK⟩ := id hX
  unfold jX12_jumps_119 at hf
  refine lv_aload_n hx hb dX12_jumps_119 rfl (lv_at hl 0 rfl) ?_
  obtain ⟨h1, hf⟩ := hs_ck hf
  obtain ⟨h2, hf⟩ := hs_ck hf
  refine hs_getr (C := RX12) (T := TX12) (N := 48) hx hb hts (fun w h => List.mem_cons_of_mem _ (inlX12 w h)) hown hK.1 hP h1 (by decide) rfl 42 (by decide) (hts _ (List.mem_cons_of_mem _ wq153)) (fun _ h => h) rfl h2 dX12_jumps_120 ?_
  refine lv_aload_n hx hb dX12_jumps_123 rfl (lv_at hl 0 rfl) ?_
  refine hs_geti (C := RX12) (T := TX12) (N := 48) hx hb hts (fun w h => List.mem_cons_of_mem _ (inlX12 w h)) hown hK.1 hP h1 (by decide) rfl 40 (by decide) (hts _ (List.mem_cons_of_mem _ wq859)) (fun _ h => h) rfl dX12_jumps_124 ?_
  refine lv_iconst (v := 1) hx hb dX12_jumps_127 (by decide) ?_
  refine lv_isub hx hb dX12_jumps_128 ?_
  obtain ⟨h3, hf⟩ := hs_ck hf
  obtain ⟨h4, hf⟩ := hs_ck hf
  refine hs_iald hx hb hK.1 hP h3 h4 dX12_jumps_129 ?_
  refine lv_istore_n (lv' := [(3, .int (hs_I g ((hs_R g v0 42) - 1) ((hs_I g v0 40) - (1 : Int32)).toNatClampNeg)), (0, .ref (B + v0)), (1, .int v1), (2, .int v2)]) hx hb dX12_jumps_130 rfl hl (by decide) rfl (fun ls hl => ?_)
  refine lv_aload_n hx hb dX12_jumps_131 rfl (lv_at hl 1 rfl) ?_
  refine hs_getr (C := RX12) (T := TX12) (N := 48) hx hb hts (fun w h => List.mem_cons_of_mem _ (inlX12 w h)) hown hK.1 hP h1 (by decide) rfl 42 (by decide) (hts _ (List.mem_cons_of_mem _ wq153)) (fun _ h => h) rfl h2 dX12_jumps_132 ?_
  refine lv_aload_n hx hb dX12_jumps_135 rfl (lv_at hl 1 rfl) ?_
  refine hs_geti (C := RX12) (T := TX12) (N := 48) hx hb hts (fun w h => List.mem_cons_of_mem _ (inlX12 w h)) hown hK.1 hP h1 (by decide) rfl 40 (by decide) (hts _ (List.mem_cons_of_mem _ wq859)) (fun _ h => h) rfl dX12_jumps_136 ?_
  refine lv_iconst (v := 1) hx hb dX12_jumps_139 (by decide) ?_
  refine lv_isub hx hb dX12_jumps_140 ?_
  refine lv_iload_n hx hb dX12_jumps_141 rfl (lv_at hl 3 rfl) ?_
  refine lv_if_eq (tgt := 174) hx hb dX12_jumps_142 (by decide) (fun hc => ?_) (fun hc => ?_)
  · replace hf := hs_t hf hc
    refine lv_iload_n hx hb dX12_jumps_174 rfl (lv_at hl 0 rfl) ?_
    refine lv_iload_n hx hb dX12_jumps_175 rfl (lv_at hl 2 rfl) ?_
    obtain ⟨r6, g5, h7, hf⟩ := hs_bd_some hf
    refine hs_calli (va_runS (As := [.int v1]) (rest := [.int (hs_I g ((hs_R g v0 42) - 1) ((hs_I g v0 40) - (1 : Int32)).toNatClampNeg), .int ((hs_I g v0 40) - (1 : Int32)), .ref (B + ((hs_R g v0 42) - 1))]) ⟨hx, hb, hml, hown, hts⟩ (ctX12_size l B D E v1 g _ h7) (va_cwS 1 hts (hs_gS (fun _ h => List.mem_cons_of_mem _ h) wq423 wq424 wq5 wq425) rfl rfl rfl (by decide +kernel) ⟨Nat.le_of_ble_eq_true rfl, Nat.le_of_ble_eq_true rfl⟩) (hs_pre hP hK) rfl rfl hl.1 rfl (lv_room (Nat.le_of_ble_eq_true rfl)) dX12_jumps_176 ⟨(Nat.le_of_ble_eq_true rfl), (Nat.le_of_ble_eq_true rfl)⟩) hS (fun H locs hP hS => ?_)
    refine lv_iadd hx hb dX12_jumps_179 ?_
    obtain ⟨h8, hf⟩ := hs_ck hf
    obtain ⟨h9, hf⟩ := hs_ck hf
    refine hs_iast hx hb hK.1 hP hS h8 h9 dX12_jumps_180 (fun H locs hP hS => ?_)
    exact hs_vret hx hb hr hlocks hK hP hS hf dX12_jumps_181
  · replace hf := hs_f hf hc
    refine lv_iload_n hx hb dX12_jumps_145 rfl (lv_at hl 2 rfl) ?_
    refine lv_iload_n hx hb dX12_jumps_146 rfl (lv_at hl 0 rfl) ?_
    refine lv_aload_n hx hb dX12_jumps_147 rfl (lv_at hl 1 rfl) ?_
    refine lv_iconst (v := 1) hx hb dX12_jumps_148 (by decide) ?_
    obtain ⟨r11, g10, h12, hf⟩ := hs_bd_some hf
    refine hs_calli (va_runV (As := [.int (1 : Int32)]) (rest := [.int (hs_I g ((hs_R g v0 42) - 1) ((hs_I g v0 40) - (1 : Int32)).toNatClampNeg), .int v1, .int ((hs_I g v0 40) - (1 : Int32)), .ref (B + ((hs_R g v0 42) - 1))]) ⟨hx, hb, hml, hown, hts⟩ (ctX12_codeAt l B D E v0 (1 : Int32) g _ h12) (cwV 1 hts (hs_gV (fun _ h => List.mem_cons_of_mem _ h) wq870 wq871 wq872 wq5 wq873) rfl rfl rfl (by decide +kernel) ⟨Nat.le_of_ble_eq_true rfl, Nat.le_of_ble_eq_true rfl⟩) (hs_preV (r := (RX12, TX12, 48)) hP hK h1 (by decide) rfl) rfl rfl hl.1 rfl (lv_room (Nat.le_of_ble_eq_true rfl)) dX12_jumps_149 ⟨(Nat.le_of_ble_eq_true rfl), (Nat.le_of_ble_eq_true rfl)⟩) hS (fun H locs hP hS => ?_)
    refine lv_iload_n hx hb dX12_jumps_152 rfl (lv_at hl 2 rfl) ?_
    refine lv_sipush (v := 168) hx hb dX12_jumps_153 (by decide) ?_
    refine lv_icmp_ne (tgt := 167) hx hb dX12_jumps_156 (by decide) (fun hc => ?_) (fun hc => ?_)
    · replace hf := hs_f hf hc
      refine lv_iconst (v := 0) hx hb dX12_jumps_167 (by decide) ?_
      exact wX12_jumps_j168 hX hf hP hS (lv_sub hl [] rfl)
    · replace hf := hs_t hf hc
      refine lv_aload_n hx hb dX12_jumps_159 rfl (lv_at hl 1 rfl) ?_
      refine lv_iconst (v := 2) hx hb dX12_jumps_160 (by decide) ?_
      obtain ⟨h18, hf⟩ := hs_ck hf
      obtain ⟨r20, g19, h21, hf⟩ := hs_bd_some hf
      refine hs_calli (va_runV (As := [.int (2 : Int32)]) (rest := [.int r11, .int (hs_I g ((hs_R g v0 42) - 1) ((hs_I g v0 40) - (1 : Int32)).toNatClampNeg), .int v1, .int ((hs_I g v0 40) - (1 : Int32)), .ref (B + ((hs_R g v0 42) - 1))]) ⟨hx, hb, hml, hown, hts⟩ (ctX12_codeAt l B D E v0 (2 : Int32) g10 _ h21) (cwV 1 hts (hs_gV (fun _ h => List.mem_cons_of_mem _ h) wq870 wq871 wq872 wq5 wq873) rfl rfl rfl (by decide +kernel) ⟨Nat.le_of_ble_eq_true rfl, Nat.le_of_ble_eq_true rfl⟩) (hs_preV (r := (RX12, TX12, 48)) hP hK h18 (by decide) rfl) rfl rfl hl.1 rfl (lv_room (Nat.le_of_ble_eq_true rfl)) dX12_jumps_161 ⟨(Nat.le_of_ble_eq_true rfl), (Nat.le_of_ble_eq_true rfl)⟩) hS (fun H locs hP hS => ?_)
      refine lv_goto (tgt := 168) hx hb dX12_jumps_164 (by decide) ?_
      exact wX12_jumps_j168 hX hf hP hS (lv_sub hl [] rfl)

set_option maxHeartbeats 4000000 in
set_option maxRecDepth 100000 in
theorem wX12_jumps_j118 {p : Program} {l : Launch} {e : Env} {s : State} {m : MethodId} {args : Array Value} {below : List Frame} {meth : Method} {c : Code} {B : Nat} {D : va_G} {E : Nat → ClassId} (hX : hs_cx cX12_jumps none 4 RX12 wcX12_jumps p s m args meth c D E) {o : hs_S}  {v0 : Nat} {v1 : Int32} {s0 : Int32}   {g : hs_S} {H : Heap} {locs : List Loc} {ls : Array Slot} (hf : jX12_jumps_118 v0 v1 s0 g = some o) (hP : hs_P B D E g H) (hS : hs_Sx B s.heap H locs) (hl : lv_has ls 4 [(0, .ref (B + v0)), (1, .int v1)]) : W p l e rmX12_jumps s m args below meth c H locs 0 0 (MQ below (hs_Qv B D E o) args s 0 0 (hs_F B)) (F0 m 118 ls [.int s0]) := by
  obtain ⟨hx, hb, hr, hml, hown, hts, hlocks, hK⟩ := id hX
  unfold jX12_jumps_118 at hf
  refine lv_istore_n (lv' := [(2, .int s0), (0, .ref (B + v0)), (1, .int v1)]) hx hb dX12_jumps_118 rfl hl (by decide) rfl (fun ls hl => ?_)
  exact wX12_jumps_j119 hX hf hP hS (lv_sub hl [1, 2, 0] rfl)

set_option maxHeartbeats 4000000 in
set_option maxRecDepth 100000 in
theorem ctX12_jumps (l : Launch) (B : Nat) (D : va_G) (E : Nat → ClassId) (v0 : Nat) (v1 : Int32) (g : hs_S) (o : hs_S) (hf : fX12_jumps v0 v1 g = some o) : Met l yX12_jumps wcX12_jumps rmX12_jumps (hs_Pc B D E g [.ref (B + v0), .int v1]) (hs_Qv B D E o) (0) (0) (hs_F B) := by
  refine Met.ofW (cc := cX12_jumps) (maxL := 4) (ret := none) (by decide) rfl ?_
  intro p e s m args below meth c s₁ Bd hml hv
  obtain ⟨rfl, hP, hK⟩ := hv
  have hx := Bd.exec
  have hb := Bd.bytes
  have hr := Bd.returns
  have hts := atoms_spec (ws := wcX12_jumps) Bd.pre
  have hown : s.vm.findClass RX12 = some m.cls := findClass_of_methodNamed Bd.named
  have hlocks := Bd.notSynchronized
  have hS : hs_Sx B s.heap s.heap [] := va_S.rf
  have hX : hs_cx cX12_jumps none 4 RX12 wcX12_jumps p s m (List.toArray [.ref (B + v0), .int v1]) meth c D E := ⟨hx, hb, hr, hml, hown, hts, hlocks, hK⟩
  have hl := lv_entry ([.ref (B + v0), .int v1]) (n := 4) (Nat.le_of_ble_eq_true rfl)
  rw [lg_entry_eq]
  generalize (lg_sl ([.ref (B + v0), .int v1]) ++ List.replicate (4 - (lg_sl ([.ref (B + v0), .int v1])).length) Slot.unset).toArray = ls at hl ⊢
  have hl : lv_has ls 4 [(0, .ref (B + v0)), (1, .int v1)] := hl
  have hP : hs_P B D E g s.heap := hP
  unfold fX12_jumps at hf
  refine lv_iconst (v := 1) hx hb dX12_jumps_0 (by decide) ?_
  refine lv_istore_n (lv' := [(2, .int (1 : Int32)), (0, .ref (B + v0)), (1, .int v1)]) hx hb dX12_jumps_1 rfl hl (by decide) rfl (fun ls hl => ?_)
  refine lv_iload_n hx hb dX12_jumps_2 rfl (lv_at hl 2 rfl) ?_
  refine lv_sipush (v := 167) hx hb dX12_jumps_3 (by decide) ?_
  refine lv_icmp_ge (tgt := 119) hx hb dX12_jumps_6 (by decide) (fun hc => ?_) (fun hc => ?_)
  · replace hf := hs_t hf hc
    exact wX12_jumps_j119 hX hf hP hS (lv_sub hl [1, 2, 0] rfl)
  · replace hf := hs_f hf hc
    refine lv_aload_n hx hb dX12_jumps_9 rfl (lv_at hl 1 rfl) ?_
    obtain ⟨h22, hf⟩ := hs_ck hf
    obtain ⟨r24, g23, h25, hf⟩ := hs_bd_some hf
    refine hs_calli (va_runV (As := []) (rest := []) ⟨hx, hb, hml, hown, hts⟩ (ctX12_pop l B D E v0 g _ h25) (cwV 0 hts (hs_gV (fun _ h => List.mem_cons_of_mem _ h) wq886 wq887 wq888 wq5 wq889) rfl rfl rfl (by decide +kernel) ⟨Nat.le_of_ble_eq_true rfl, Nat.le_of_ble_eq_true rfl⟩) (hs_preV (r := (RX12, TX12, 48)) hP hK h22 (by decide) rfl) rfl rfl hl.1 rfl (lv_room (Nat.le_of_ble_eq_true rfl)) dX12_jumps_10 ⟨(Nat.le_of_ble_eq_true rfl), (Nat.le_of_ble_eq_true rfl)⟩) hS (fun H locs hP hS => ?_)
    refine lv_istore_n (lv' := [(3, .int r24), (2, .int (1 : Int32)), (0, .ref (B + v0)), (1, .int v1)]) hx hb dX12_jumps_13 rfl hl (by decide) rfl (fun ls hl => ?_)
    refine lv_iload_n hx hb dX12_jumps_14 rfl (lv_at hl 3 rfl) ?_
    refine lv_sipush (v := 153) hx hb dX12_jumps_15 (by decide) ?_
    refine lv_icmp_ne (tgt := 33) hx hb dX12_jumps_18 (by decide) (fun hc => ?_) (fun hc => ?_)
    · replace hf := hs_f hf hc
      refine lv_iload_n hx hb dX12_jumps_33 rfl (lv_at hl 3 rfl) ?_
      refine lv_sipush (v := 154) hx hb dX12_jumps_34 (by decide) ?_
      refine lv_icmp_ne (tgt := 52) hx hb dX12_jumps_37 (by decide) (fun hc => ?_) (fun hc => ?_)
      · replace hf := hs_f hf hc
        refine lv_iload_n hx hb dX12_jumps_52 rfl (lv_at hl 3 rfl) ?_
        refine lv_sipush (v := 155) hx hb dX12_jumps_53 (by decide) ?_
        refine lv_icmp_ne (tgt := 71) hx hb dX12_jumps_56 (by decide) (fun hc => ?_) (fun hc => ?_)
        · replace hf := hs_f hf hc
          refine lv_iload_n hx hb dX12_jumps_71 rfl (lv_at hl 3 rfl) ?_
          refine lv_sipush (v := 156) hx hb dX12_jumps_72 (by decide) ?_
          refine lv_icmp_ne (tgt := 90) hx hb dX12_jumps_75 (by decide) (fun hc => ?_) (fun hc => ?_)
          · replace hf := hs_f hf hc
            refine lv_iload_n hx hb dX12_jumps_90 rfl (lv_at hl 3 rfl) ?_
            refine lv_sipush (v := 157) hx hb dX12_jumps_91 (by decide) ?_
            refine lv_icmp_ne (tgt := 109) hx hb dX12_jumps_94 (by decide) (fun hc => ?_) (fun hc => ?_)
            · replace hf := hs_f hf hc
              refine lv_iload_n hx hb dX12_jumps_109 rfl (lv_at hl 0 rfl) ?_
              refine lv_if_gt (tgt := 117) hx hb dX12_jumps_110 (by decide) (fun hc => ?_) (fun hc => ?_)
              · replace hf := hs_t hf hc
                refine lv_iconst (v := 0) hx hb dX12_jumps_117 (by decide) ?_
                exact wX12_jumps_j118 hX hf hP hS (lv_sub hl [2, 3] rfl)
              · replace hf := hs_f hf hc
                refine lv_iconst (v := 1) hx hb dX12_jumps_113 (by decide) ?_
                refine lv_goto (tgt := 118) hx hb dX12_jumps_114 (by decide) ?_
                exact wX12_jumps_j118 hX hf hP hS (lv_sub hl [2, 3] rfl)
            · replace hf := hs_t hf hc
              refine lv_iload_n hx hb dX12_jumps_97 rfl (lv_at hl 0 rfl) ?_
              refine lv_if_le (tgt := 105) hx hb dX12_jumps_98 (by decide) (fun hc => ?_) (fun hc => ?_)
              · replace hf := hs_t hf hc
                refine lv_iconst (v := 0) hx hb dX12_jumps_105 (by decide) ?_
                refine lv_goto (tgt := 118) hx hb dX12_jumps_106 (by decide) ?_
                exact wX12_jumps_j118 hX hf hP hS (lv_sub hl [2, 3] rfl)
              · replace hf := hs_f hf hc
                refine lv_iconst (v := 1) hx hb dX12_jumps_101 (by decide) ?_
                refine lv_goto (tgt := 118) hx hb dX12_jumps_102 (by decide) ?_
                exact wX12_jumps_j118 hX hf hP hS (lv_sub hl [2, 3] rfl)
          · replace hf := hs_t hf hc
            refine lv_iload_n hx hb dX12_jumps_78 rfl (lv_at hl 0 rfl) ?_
            refine lv_if_lt (tgt := 86) hx hb dX12_jumps_79 (by decide) (fun hc => ?_) (fun hc => ?_)
            · replace hf := hs_t hf hc
              refine lv_iconst (v := 0) hx hb dX12_jumps_86 (by decide) ?_
              refine lv_goto (tgt := 118) hx hb dX12_jumps_87 (by decide) ?_
              exact wX12_jumps_j118 hX hf hP hS (lv_sub hl [2, 3] rfl)
            · replace hf := hs_f hf hc
              refine lv_iconst (v := 1) hx hb dX12_jumps_82 (by decide) ?_
              refine lv_goto (tgt := 118) hx hb dX12_jumps_83 (by decide) ?_
              exact wX12_jumps_j118 hX hf hP hS (lv_sub hl [2, 3] rfl)
        · replace hf := hs_t hf hc
          refine lv_iload_n hx hb dX12_jumps_59 rfl (lv_at hl 0 rfl) ?_
          refine lv_if_ge (tgt := 67) hx hb dX12_jumps_60 (by decide) (fun hc => ?_) (fun hc => ?_)
          · replace hf := hs_t hf hc
            refine lv_iconst (v := 0) hx hb dX12_jumps_67 (by decide) ?_
            refine lv_goto (tgt := 118) hx hb dX12_jumps_68 (by decide) ?_
            exact wX12_jumps_j118 hX hf hP hS (lv_sub hl [2, 3] rfl)
          · replace hf := hs_f hf hc
            refine lv_iconst (v := 1) hx hb dX12_jumps_63 (by decide) ?_
            refine lv_goto (tgt := 118) hx hb dX12_jumps_64 (by decide) ?_
            exact wX12_jumps_j118 hX hf hP hS (lv_sub hl [2, 3] rfl)
      · replace hf := hs_t hf hc
        refine lv_iload_n hx hb dX12_jumps_40 rfl (lv_at hl 0 rfl) ?_
        refine lv_if_eq (tgt := 48) hx hb dX12_jumps_41 (by decide) (fun hc => ?_) (fun hc => ?_)
        · replace hf := hs_t hf hc
          refine lv_iconst (v := 0) hx hb dX12_jumps_48 (by decide) ?_
          refine lv_goto (tgt := 118) hx hb dX12_jumps_49 (by decide) ?_
          exact wX12_jumps_j118 hX hf hP hS (lv_sub hl [2, 3] rfl)
        · replace hf := hs_f hf hc
          refine lv_iconst (v := 1) hx hb dX12_jumps_44 (by decide) ?_
          refine lv_goto (tgt := 118) hx hb dX12_jumps_45 (by decide) ?_
          exact wX12_jumps_j118 hX hf hP hS (lv_sub hl [2, 3] rfl)
    · replace hf := hs_t hf hc
      refine lv_iload_n hx hb dX12_jumps_21 rfl (lv_at hl 0 rfl) ?_
      refine lv_if_ne (tgt := 29) hx hb dX12_jumps_22 (by decide) (fun hc => ?_) (fun hc => ?_)
      · replace hf := hs_f hf hc
        refine lv_iconst (v := 0) hx hb dX12_jumps_29 (by decide) ?_
        refine lv_goto (tgt := 118) hx hb dX12_jumps_30 (by decide) ?_
        exact wX12_jumps_j118 hX hf hP hS (lv_sub hl [2, 3] rfl)
      · replace hf := hs_t hf hc
        refine lv_iconst (v := 1) hx hb dX12_jumps_25 (by decide) ?_
        refine lv_goto (tgt := 118) hx hb dX12_jumps_26 (by decide) ?_
        exact wX12_jumps_j118 hX hf hP hS (lv_sub hl [2, 3] rfl)

theorem dX12_ofArrays_0 : decode cX12_ofArrays 0 = .ok (.iload_n 1, 1) := by decide +kernel
theorem dX12_ofArrays_1 : decode cX12_ofArrays 1 = .ok (.sipush 191, 3) := by decide +kernel
theorem dX12_ofArrays_4 : decode cX12_ofArrays 4 = .ok (.if_icmp .ne 7, 3) := by decide +kernel
theorem dX12_ofArrays_7 : decode cX12_ofArrays 7 = .ok (.iconst 0, 1) := by decide +kernel
theorem dX12_ofArrays_8 : decode cX12_ofArrays 8 = .ok (.goto 8, 3) := by decide +kernel
theorem dX12_ofArrays_11 : decode cX12_ofArrays 11 = .ok (.aload_n 0, 1) := by decide +kernel
theorem dX12_ofArrays_12 : decode cX12_ofArrays 12 = .ok (.iconst 1, 1) := by decide +kernel
theorem dX12_ofArrays_13 : decode cX12_ofArrays 13 = .ok (.invokevirtual 276, 3) := by decide +kernel
theorem dX12_ofArrays_16 : decode cX12_ofArrays 16 = .ok (.istore_n 2, 1) := by decide +kernel
theorem dX12_ofArrays_17 : decode cX12_ofArrays 17 = .ok (.aload_n 0, 1) := by decide +kernel
theorem dX12_ofArrays_18 : decode cX12_ofArrays 18 = .ok (.getfield 105, 3) := by decide +kernel
theorem dX12_ofArrays_21 : decode cX12_ofArrays 21 = .ok (.aload_n 0, 1) := by decide +kernel
theorem dX12_ofArrays_22 : decode cX12_ofArrays 22 = .ok (.getfield 254, 3) := by decide +kernel
theorem dX12_ofArrays_25 : decode cX12_ofArrays 25 = .ok (.iconst 1, 1) := by decide +kernel
theorem dX12_ofArrays_26 : decode cX12_ofArrays 26 = .ok (.isub, 1) := by decide +kernel
theorem dX12_ofArrays_27 : decode cX12_ofArrays 27 = .ok (.iaload, 1) := by decide +kernel
theorem dX12_ofArrays_28 : decode cX12_ofArrays 28 = .ok (.iload_n 1, 1) := by decide +kernel
theorem dX12_ofArrays_29 : decode cX12_ofArrays 29 = .ok (.invokestatic 120, 3) := by decide +kernel
theorem dX12_ofArrays_32 : decode cX12_ofArrays 32 = .ok (.iadd, 1) := by decide +kernel
theorem dX12_ofArrays_33 : decode cX12_ofArrays 33 = .ok (.istore_n 3, 1) := by decide +kernel
theorem dX12_ofArrays_34 : decode cX12_ofArrays 34 = .ok (.iload_n 1, 1) := by decide +kernel
theorem dX12_ofArrays_35 : decode cX12_ofArrays 35 = .ok (.sipush 191, 3) := by decide +kernel
theorem dX12_ofArrays_38 : decode cX12_ofArrays 38 = .ok (.if_icmp .ne 11, 3) := by decide +kernel
theorem dX12_ofArrays_41 : decode cX12_ofArrays 41 = .ok (.aload_n 0, 1) := by decide +kernel
theorem dX12_ofArrays_42 : decode cX12_ofArrays 42 = .ok (.iconst 4, 1) := by decide +kernel
theorem dX12_ofArrays_43 : decode cX12_ofArrays 43 = .ok (.putfield 267, 3) := by decide +kernel
theorem dX12_ofArrays_46 : decode cX12_ofArrays 46 = .ok (.goto 195, 3) := by decide +kernel
theorem dX12_ofArrays_49 : decode cX12_ofArrays 49 = .ok (.iload_n 1, 1) := by decide +kernel
theorem dX12_ofArrays_50 : decode cX12_ofArrays 50 = .ok (.sipush 188, 3) := by decide +kernel
theorem dX12_ofArrays_53 : decode cX12_ofArrays 53 = .ok (.if_icmp .ne 83, 3) := by decide +kernel
theorem dX12_ofArrays_56 : decode cX12_ofArrays 56 = .ok (.aload_n 0, 1) := by decide +kernel
theorem dX12_ofArrays_57 : decode cX12_ofArrays 57 = .ok (.invokevirtual 282, 3) := by decide +kernel
theorem dX12_ofArrays_60 : decode cX12_ofArrays 60 = .ok (.istore 4, 2) := by decide +kernel
theorem dX12_ofArrays_62 : decode cX12_ofArrays 62 = .ok (.iload 4, 2) := by decide +kernel
theorem dX12_ofArrays_64 : decode cX12_ofArrays 64 = .ok (.ifCond .lt 11, 3) := by decide +kernel
theorem dX12_ofArrays_67 : decode cX12_ofArrays 67 = .ok (.iload 4, 2) := by decide +kernel
theorem dX12_ofArrays_69 : decode cX12_ofArrays 69 = .ok (.sipush 1000, 3) := by decide +kernel
theorem dX12_ofArrays_72 : decode cX12_ofArrays 72 = .ok (.if_icmp .le 18, 3) := by decide +kernel
theorem dX12_ofArrays_75 : decode cX12_ofArrays 75 = .ok (.aload_n 0, 1) := by decide +kernel
theorem dX12_ofArrays_76 : decode cX12_ofArrays 76 = .ok (.iload 4, 2) := by decide +kernel
theorem dX12_ofArrays_78 : decode cX12_ofArrays 78 = .ok (.ifCond .ge 7, 3) := by decide +kernel
theorem dX12_ofArrays_81 : decode cX12_ofArrays 81 = .ok (.iconst 3, 1) := by decide +kernel
theorem dX12_ofArrays_82 : decode cX12_ofArrays 82 = .ok (.goto 4, 3) := by decide +kernel
theorem dX12_ofArrays_85 : decode cX12_ofArrays 85 = .ok (.iconst 4, 1) := by decide +kernel
theorem dX12_ofArrays_86 : decode cX12_ofArrays 86 = .ok (.putfield 267, 3) := by decide +kernel
theorem dX12_ofArrays_89 : decode cX12_ofArrays 89 = .ok (.return_, 1) := by decide +kernel
theorem dX12_ofArrays_90 : decode cX12_ofArrays 90 = .ok (.aload_n 0, 1) := by decide +kernel
theorem dX12_ofArrays_91 : decode cX12_ofArrays 91 = .ok (.invokevirtual 300, 3) := by decide +kernel
theorem dX12_ofArrays_94 : decode cX12_ofArrays 94 = .ok (.pop, 1) := by decide +kernel
theorem dX12_ofArrays_95 : decode cX12_ofArrays 95 = .ok (.aload_n 0, 1) := by decide +kernel
theorem dX12_ofArrays_96 : decode cX12_ofArrays 96 = .ok (.getfield 96, 3) := by decide +kernel
theorem dX12_ofArrays_99 : decode cX12_ofArrays 99 = .ok (.iload_n 2, 1) := by decide +kernel
theorem dX12_ofArrays_100 : decode cX12_ofArrays 100 = .ok (.iload 4, 2) := by decide +kernel
theorem dX12_ofArrays_102 : decode cX12_ofArrays 102 = .ok (.iastore, 1) := by decide +kernel
theorem dX12_ofArrays_103 : decode cX12_ofArrays 103 = .ok (.iconst 0, 1) := by decide +kernel
theorem dX12_ofArrays_104 : decode cX12_ofArrays 104 = .ok (.istore 5, 2) := by decide +kernel
theorem dX12_ofArrays_106 : decode cX12_ofArrays 106 = .ok (.iload 5, 2) := by decide +kernel
theorem dX12_ofArrays_108 : decode cX12_ofArrays 108 = .ok (.iload 4, 2) := by decide +kernel
theorem dX12_ofArrays_110 : decode cX12_ofArrays 110 = .ok (.if_icmp .ge 23, 3) := by decide +kernel
theorem dX12_ofArrays_113 : decode cX12_ofArrays 113 = .ok (.aload_n 0, 1) := by decide +kernel
theorem dX12_ofArrays_114 : decode cX12_ofArrays 114 = .ok (.getfield 99, 3) := by decide +kernel
theorem dX12_ofArrays_117 : decode cX12_ofArrays 117 = .ok (.sipush 1001, 3) := by decide +kernel
theorem dX12_ofArrays_120 : decode cX12_ofArrays 120 = .ok (.iload_n 2, 1) := by decide +kernel
theorem dX12_ofArrays_121 : decode cX12_ofArrays 121 = .ok (.imul, 1) := by decide +kernel
theorem dX12_ofArrays_122 : decode cX12_ofArrays 122 = .ok (.iload 5, 2) := by decide +kernel
theorem dX12_ofArrays_124 : decode cX12_ofArrays 124 = .ok (.iadd, 1) := by decide +kernel
theorem dX12_ofArrays_125 : decode cX12_ofArrays 125 = .ok (.iconst 0, 1) := by decide +kernel
theorem dX12_ofArrays_126 : decode cX12_ofArrays 126 = .ok (.iastore, 1) := by decide +kernel
theorem dX12_ofArrays_127 : decode cX12_ofArrays 127 = .ok (.iinc 5 1, 3) := by decide +kernel
theorem dX12_ofArrays_130 : decode cX12_ofArrays 130 = .ok (.goto (-24), 3) := by decide +kernel
theorem dX12_ofArrays_133 : decode cX12_ofArrays 133 = .ok (.goto 108, 3) := by decide +kernel
theorem dX12_ofArrays_136 : decode cX12_ofArrays 136 = .ok (.iload_n 1, 1) := by decide +kernel
theorem dX12_ofArrays_137 : decode cX12_ofArrays 137 = .ok (.sipush 190, 3) := by decide +kernel
theorem dX12_ofArrays_140 : decode cX12_ofArrays 140 = .ok (.if_icmp .ne 16, 3) := by decide +kernel
theorem dX12_ofArrays_143 : decode cX12_ofArrays 143 = .ok (.aload_n 0, 1) := by decide +kernel
theorem dX12_ofArrays_144 : decode cX12_ofArrays 144 = .ok (.aload_n 0, 1) := by decide +kernel
theorem dX12_ofArrays_145 : decode cX12_ofArrays 145 = .ok (.getfield 96, 3) := by decide +kernel
theorem dX12_ofArrays_148 : decode cX12_ofArrays 148 = .ok (.iload_n 2, 1) := by decide +kernel
theorem dX12_ofArrays_149 : decode cX12_ofArrays 149 = .ok (.iaload, 1) := by decide +kernel
theorem dX12_ofArrays_150 : decode cX12_ofArrays 150 = .ok (.invokevirtual 303, 3) := by decide +kernel
theorem dX12_ofArrays_153 : decode cX12_ofArrays 153 = .ok (.goto 88, 3) := by decide +kernel
theorem dX12_ofArrays_156 : decode cX12_ofArrays 156 = .ok (.iload_n 1, 1) := by decide +kernel
theorem dX12_ofArrays_157 : decode cX12_ofArrays 157 = .ok (.bipush 79, 2) := by decide +kernel
theorem dX12_ofArrays_159 : decode cX12_ofArrays 159 = .ok (.if_icmp .ne 10, 3) := by decide +kernel
theorem dX12_ofArrays_162 : decode cX12_ofArrays 162 = .ok (.aload_n 0, 1) := by decide +kernel
theorem dX12_ofArrays_163 : decode cX12_ofArrays 163 = .ok (.invokevirtual 300, 3) := by decide +kernel
theorem dX12_ofArrays_166 : decode cX12_ofArrays 166 = .ok (.goto 4, 3) := by decide +kernel
theorem dX12_ofArrays_169 : decode cX12_ofArrays 169 = .ok (.iconst 0, 1) := by decide +kernel
theorem dX12_ofArrays_170 : decode cX12_ofArrays 170 = .ok (.istore 4, 2) := by decide +kernel
theorem dX12_ofArrays_172 : decode cX12_ofArrays 172 = .ok (.aload_n 0, 1) := by decide +kernel
theorem dX12_ofArrays_173 : decode cX12_ofArrays 173 = .ok (.invokevirtual 300, 3) := by decide +kernel
theorem dX12_ofArrays_176 : decode cX12_ofArrays 176 = .ok (.istore 5, 2) := by decide +kernel
theorem dX12_ofArrays_178 : decode cX12_ofArrays 178 = .ok (.iload 5, 2) := by decide +kernel
theorem dX12_ofArrays_180 : decode cX12_ofArrays 180 = .ok (.ifCond .lt 14, 3) := by decide +kernel
theorem dX12_ofArrays_183 : decode cX12_ofArrays 183 = .ok (.iload 5, 2) := by decide +kernel
theorem dX12_ofArrays_185 : decode cX12_ofArrays 185 = .ok (.aload_n 0, 1) := by decide +kernel
theorem dX12_ofArrays_186 : decode cX12_ofArrays 186 = .ok (.getfield 96, 3) := by decide +kernel
theorem dX12_ofArrays_189 : decode cX12_ofArrays 189 = .ok (.iload_n 2, 1) := by decide +kernel
theorem dX12_ofArrays_190 : decode cX12_ofArrays 190 = .ok (.iaload, 1) := by decide +kernel
theorem dX12_ofArrays_191 : decode cX12_ofArrays 191 = .ok (.if_icmp .lt 9, 3) := by decide +kernel
theorem dX12_ofArrays_194 : decode cX12_ofArrays 194 = .ok (.aload_n 0, 1) := by decide +kernel
theorem dX12_ofArrays_195 : decode cX12_ofArrays 195 = .ok (.iconst 2, 1) := by decide +kernel
theorem dX12_ofArrays_196 : decode cX12_ofArrays 196 = .ok (.putfield 267, 3) := by decide +kernel
theorem dX12_ofArrays_199 : decode cX12_ofArrays 199 = .ok (.return_, 1) := by decide +kernel
theorem dX12_ofArrays_200 : decode cX12_ofArrays 200 = .ok (.iload_n 1, 1) := by decide +kernel
theorem dX12_ofArrays_201 : decode cX12_ofArrays 201 = .ok (.bipush 79, 2) := by decide +kernel
theorem dX12_ofArrays_203 : decode cX12_ofArrays 203 = .ok (.if_icmp .ne 21, 3) := by decide +kernel
theorem dX12_ofArrays_206 : decode cX12_ofArrays 206 = .ok (.aload_n 0, 1) := by decide +kernel
theorem dX12_ofArrays_207 : decode cX12_ofArrays 207 = .ok (.getfield 99, 3) := by decide +kernel
theorem dX12_ofArrays_210 : decode cX12_ofArrays 210 = .ok (.sipush 1001, 3) := by decide +kernel
theorem dX12_ofArrays_213 : decode cX12_ofArrays 213 = .ok (.iload_n 2, 1) := by decide +kernel
theorem dX12_ofArrays_214 : decode cX12_ofArrays 214 = .ok (.imul, 1) := by decide +kernel
theorem dX12_ofArrays_215 : decode cX12_ofArrays 215 = .ok (.iload 5, 2) := by decide +kernel
theorem dX12_ofArrays_217 : decode cX12_ofArrays 217 = .ok (.iadd, 1) := by decide +kernel
theorem dX12_ofArrays_218 : decode cX12_ofArrays 218 = .ok (.iload 4, 2) := by decide +kernel
theorem dX12_ofArrays_220 : decode cX12_ofArrays 220 = .ok (.iastore, 1) := by decide +kernel
theorem dX12_ofArrays_221 : decode cX12_ofArrays 221 = .ok (.goto 20, 3) := by decide +kernel
theorem dX12_ofArrays_224 : decode cX12_ofArrays 224 = .ok (.aload_n 0, 1) := by decide +kernel
theorem dX12_ofArrays_225 : decode cX12_ofArrays 225 = .ok (.aload_n 0, 1) := by decide +kernel
theorem dX12_ofArrays_226 : decode cX12_ofArrays 226 = .ok (.getfield 99, 3) := by decide +kernel
theorem dX12_ofArrays_229 : decode cX12_ofArrays 229 = .ok (.sipush 1001, 3) := by decide +kernel
theorem dX12_ofArrays_232 : decode cX12_ofArrays 232 = .ok (.iload_n 2, 1) := by decide +kernel
theorem dX12_ofArrays_233 : decode cX12_ofArrays 233 = .ok (.imul, 1) := by decide +kernel
theorem dX12_ofArrays_234 : decode cX12_ofArrays 234 = .ok (.iload 5, 2) := by decide +kernel
theorem dX12_ofArrays_236 : decode cX12_ofArrays 236 = .ok (.iadd, 1) := by decide +kernel
theorem dX12_ofArrays_237 : decode cX12_ofArrays 237 = .ok (.iaload, 1) := by decide +kernel
theorem dX12_ofArrays_238 : decode cX12_ofArrays 238 = .ok (.invokevirtual 303, 3) := by decide +kernel
theorem dX12_ofArrays_241 : decode cX12_ofArrays 241 = .ok (.aload_n 0, 1) := by decide +kernel
theorem dX12_ofArrays_242 : decode cX12_ofArrays 242 = .ok (.getfield 267, 3) := by decide +kernel
theorem dX12_ofArrays_245 : decode cX12_ofArrays 245 = .ok (.ifCond .ne 15, 3) := by decide +kernel
theorem dX12_ofArrays_248 : decode cX12_ofArrays 248 = .ok (.aload_n 0, 1) := by decide +kernel
theorem dX12_ofArrays_249 : decode cX12_ofArrays 249 = .ok (.getfield 105, 3) := by decide +kernel
theorem dX12_ofArrays_252 : decode cX12_ofArrays 252 = .ok (.aload_n 0, 1) := by decide +kernel
theorem dX12_ofArrays_253 : decode cX12_ofArrays 253 = .ok (.getfield 254, 3) := by decide +kernel
theorem dX12_ofArrays_256 : decode cX12_ofArrays 256 = .ok (.iconst 1, 1) := by decide +kernel
theorem dX12_ofArrays_257 : decode cX12_ofArrays 257 = .ok (.isub, 1) := by decide +kernel
theorem dX12_ofArrays_258 : decode cX12_ofArrays 258 = .ok (.iload_n 3, 1) := by decide +kernel
theorem dX12_ofArrays_259 : decode cX12_ofArrays 259 = .ok (.iastore, 1) := by decide +kernel
theorem dX12_ofArrays_260 : decode cX12_ofArrays 260 = .ok (.return_, 1) := by decide +kernel
abbrev wcX12_ofArrays : List Cond := .code yX12_ofArrays cX12_ofArrays 6 none :: wsL_law
def jX12_ofArrays_241 (v0 : Nat) (v3 : Int32) (g : hs_S) : Option (hs_S) :=
  if hs_kd g v0 = 10 then
  if (hs_I g v0 47) = 0 then (
    if ¬ (hs_R g v0 42) = 0 then
    if hs_kd g ((hs_R g v0 42) - 1) = 100 then
    if hs_in ((hs_I g v0 40) - (1 : Int32)) (hs_ln g ((hs_R g v0 42) - 1)) = true then
    some (hs_wI g ((hs_R g v0 42) - 1) ((hs_I g v0 40) - (1 : Int32)).toNatClampNeg v3)
    else none else none else none
  ) else (
    some g
  )
  else none
def jX12_ofArrays_170 (v0 : Nat) (v1 : Int32) (v2 : Int32) (v3 : Int32) (s0 : Int32) (g : hs_S) : Option (hs_S) :=
  if hs_kd g v0 = 10 then
  hs_bd (fX12_pop v0 g) fun r14 g13 =>
  if r14 < 0 then (
    if hs_kd g13 v0 = 10 then
    some (hs_wI g13 v0 47 (2 : Int32))
    else none
  ) else (
    if hs_kd g13 v0 = 10 then
    if ¬ (hs_R g13 v0 34) = 0 then
    if hs_kd g13 ((hs_R g13 v0 34) - 1) = 100 then
    if hs_in v2 (hs_ln g13 ((hs_R g13 v0 34) - 1)) = true then
    if r14 < (hs_I g13 ((hs_R g13 v0 34) - 1) v2.toNatClampNeg) then (
      if v1 = (79 : Int32) then (
        if ¬ (hs_R g13 v0 35) = 0 then
        if hs_kd g13 ((hs_R g13 v0 35) - 1) = 100 then
        if hs_in (((1001 : Int32) * v2) + r14) (hs_ln g13 ((hs_R g13 v0 35) - 1)) = true then
        jX12_ofArrays_241 v0 v3 (hs_wI g13 ((hs_R g13 v0 35) - 1) (((1001 : Int32) * v2) + r14).toNatClampNeg s0)
        else none else none else none
      ) else (
        if ¬ (hs_R g13 v0 35) = 0 then
        if hs_kd g13 ((hs_R g13 v0 35) - 1) = 100 then
        if hs_in (((1001 : Int32) * v2) + r14) (hs_ln g13 ((hs_R g13 v0 35) - 1)) = true then
        hs_bv (fX12_push v0 (hs_I g13 ((hs_R g13 v0 35) - 1) (((1001 : Int32) * v2) + r14).toNatClampNeg) g13) fun g24 =>
        jX12_ofArrays_241 v0 v3 g24
        else none else none else none
      )
    ) else (
      some (hs_wI g13 v0 47 (2 : Int32))
    )
    else none else none else none else none
  )
  else none
def jX12_ofArrays_75 (v0 : Nat) (v4 : Int32) (g : hs_S) : Option (hs_S) :=
  if 0 ≤ v4 then (
    if hs_kd g v0 = 10 then
    some (hs_wI g v0 47 (4 : Int32))
    else none
  ) else (
    if hs_kd g v0 = 10 then
    some (hs_wI g v0 47 (3 : Int32))
    else none
  )
def lX12_ofArrays_106 : Nat → Nat → Int32 → Int32 → Int32 → Int32 → hs_S → Option (hs_S)
  | 0, _, _, _, _, _, _ => none
  | n + 1, v0, v2, v3, v4, v5, g =>
    if v4 ≤ v5 then (
      some g
    ) else (
      if hs_kd g v0 = 10 then
      if ¬ (hs_R g v0 35) = 0 then
      if hs_kd g ((hs_R g v0 35) - 1) = 100 then
      if hs_in (((1001 : Int32) * v2) + v5) (hs_ln g ((hs_R g v0 35) - 1)) = true then
      lX12_ofArrays_106 n v0 v2 v3 v4 (v5 + (1 : Int32)) (hs_wI g ((hs_R g v0 35) - 1) (((1001 : Int32) * v2) + v5).toNatClampNeg (0 : Int32))
      else none else none else none else none
    )
theorem lX12_ofArrays_106_s (n : Nat) (v0 : Nat) (v2 : Int32) (v3 : Int32) (v4 : Int32) (v5 : Int32) (g : hs_S) : lX12_ofArrays_106 (n + 1) v0 v2 v3 v4 v5 g =
    if v4 ≤ v5 then (
      some g
    ) else (
      if hs_kd g v0 = 10 then
      if ¬ (hs_R g v0 35) = 0 then
      if hs_kd g ((hs_R g v0 35) - 1) = 100 then
      if hs_in (((1001 : Int32) * v2) + v5) (hs_ln g ((hs_R g v0 35) - 1)) = true then
      lX12_ofArrays_106 n v0 v2 v3 v4 (v5 + (1 : Int32)) (hs_wI g ((hs_R g v0 35) - 1) (((1001 : Int32) * v2) + v5).toNatClampNeg (0 : Int32))
      else none else none else none else none
    ) := rfl
def jX12_ofArrays_16 (v0 : Nat) (v1 : Int32) (s0 : Int32) (g : hs_S) : Option (hs_S) :=
  if hs_kd g v0 = 10 then
  if ¬ (hs_R g v0 42) = 0 then
  if hs_kd g ((hs_R g v0 42) - 1) = 100 then
  if hs_in ((hs_I g v0 40) - (1 : Int32)) (hs_ln g ((hs_R g v0 42) - 1)) = true then
  hs_bd (fX12_size v1 g) fun r10 g9 =>
  if v1 = (191 : Int32) then (
    if hs_kd g9 v0 = 10 then
    jX12_ofArrays_241 v0 ((hs_I g ((hs_R g v0 42) - 1) ((hs_I g v0 40) - (1 : Int32)).toNatClampNeg) + r10) (hs_wI g9 v0 47 (4 : Int32))
    else none
  ) else (
    if v1 = (188 : Int32) then (
      if hs_kd g9 v0 = 10 then
      hs_bd (fX12_top v0 g9) fun r47 g46 =>
      if r47 < 0 then (
        jX12_ofArrays_75 v0 r47 g46
      ) else (
        if r47 ≤ (1000 : Int32) then (
          if hs_kd g46 v0 = 10 then
          hs_bd (fX12_pop v0 g46) fun r53 g52 =>
          if hs_kd g52 v0 = 10 then
          if ¬ (hs_R g52 v0 34) = 0 then
          if hs_kd g52 ((hs_R g52 v0 34) - 1) = 100 then
          if hs_in s0 (hs_ln g52 ((hs_R g52 v0 34) - 1)) = true then
          hs_bv (lX12_ofArrays_106 hs_N v0 s0 ((hs_I g ((hs_R g v0 42) - 1) ((hs_I g v0 40) - (1 : Int32)).toNatClampNeg) + r10) r47 (0 : Int32) (hs_wI g52 ((hs_R g52 v0 34) - 1) s0.toNatClampNeg r47)) fun g64 =>
          jX12_ofArrays_241 v0 ((hs_I g ((hs_R g v0 42) - 1) ((hs_I g v0 40) - (1 : Int32)).toNatClampNeg) + r10) g64
          else none else none else none else none else none
        ) else (
          jX12_ofArrays_75 v0 r47 g46
        )
      )
      else none
    ) else (
      if v1 = (190 : Int32) then (
        if hs_kd g9 v0 = 10 then
        if ¬ (hs_R g9 v0 34) = 0 then
        if hs_kd g9 ((hs_R g9 v0 34) - 1) = 100 then
        if hs_in s0 (hs_ln g9 ((hs_R g9 v0 34) - 1)) = true then
        hs_bv (fX12_push v0 (hs_I g9 ((hs_R g9 v0 34) - 1) s0.toNatClampNeg) g9) fun g42 =>
        jX12_ofArrays_241 v0 ((hs_I g ((hs_R g v0 42) - 1) ((hs_I g v0 40) - (1 : Int32)).toNatClampNeg) + r10) g42
        else none else none else none else none
      ) else (
        if v1 = (79 : Int32) then (
          if hs_kd g9 v0 = 10 then
          hs_bd (fX12_pop v0 g9) fun r36 g35 =>
          jX12_ofArrays_170 v0 v1 s0 ((hs_I g ((hs_R g v0 42) - 1) ((hs_I g v0 40) - (1 : Int32)).toNatClampNeg) + r10) r36 g35
          else none
        ) else (
          jX12_ofArrays_170 v0 v1 s0 ((hs_I g ((hs_R g v0 42) - 1) ((hs_I g v0 40) - (1 : Int32)).toNatClampNeg) + r10) (0 : Int32) g9
        )
      )
    )
  )
  else none else none else none else none
def fX12_ofArrays (v0 : Nat) (v1 : Int32) (g : hs_S) : Option (hs_S) :=
  if v1 = (191 : Int32) then (
    jX12_ofArrays_16 v0 v1 (0 : Int32) g
  ) else (
    if hs_kd g v0 = 10 then
    hs_bd (fX12_codeAt v0 (1 : Int32) g) fun r3 g2 =>
    jX12_ofArrays_16 v0 v1 r3 g2
    else none
  )
abbrev rmX12_ofArrays : Room := { frames := 1, cells := 0, slots := 0, locals := 22 }
set_option maxHeartbeats 4000000 in
set_option maxRecDepth 100000 in
theorem wX12_ofArrays_j241 {p : Program} {l : Launch} {e : Env} {s : State} {m : MethodId} {args : Array Value} {below : List Frame} {meth : Method} {c : Code} {B : Nat} {D : va_G} {E : Nat → ClassId} (hX : hs_cx cX12_ofArrays none 6 RX12 wcX12_ofArrays p s m args meth c D E) {o : hs_S}  {v0 : Nat} {v3 : Int32}   {g : hs_S} {H : Heap} {locs : List Loc} {ls : Array Slot} (hf : jX12_ofArrays_241 v0 v3 g = some o) (hP : hs_P B D E g H) (hS : hs_Sx B s.heap H locs) (hl : lv_has ls 6 [(0, .ref (B + v0)), (3, .int v3)]) : W p l e rmX12_ofArrays s m args below meth c H locs 0 0 (MQ below (hs_Qv B D E o) args s 0 0 (hs_F B)) (F0 m 241 ls []) := by
  obtain ⟨hx, hb, hr, hml, hown, hts, hlocks, hK⟩ := id hX
  unfold jX12_ofArrays_241 at hf
  refine lv_aload_n hx hb dX12_ofArrays_241 rfl (lv_at hl 0 rfl) ?_
  obtain ⟨h27, hf⟩ := hs_ck hf
  refine hs_geti (C := RX12) (T := TX12) (N := 48) hx hb hts (fun w h => List.mem_cons_of_mem _ (inlX12 w h)) hown hK.1 hP h27 (by decide) rfl 47 (by decide) (hts _ (List.mem_cons_of_mem _ wq861)) (fun _ h => h) rfl dX12_ofArrays_242 ?_
  refine lv_if_ne (tgt := 260) hx hb dX12_ofArrays_245 (by decide) (fun hc => ?_) (fun hc => ?_)
  · replace hf := hs_f hf hc
    exact hs_vret hx hb hr hlocks hK hP hS hf dX12_ofArrays_260
  · replace hf := hs_t hf hc
    refine lv_aload_n hx hb dX12_ofArrays_248 rfl (lv_at hl 0 rfl) ?_
    obtain ⟨h28, hf⟩ := hs_ck hf
    refine hs_getr (C := RX12) (T := TX12) (N := 48) hx hb hts (fun w h => List.mem_cons_of_mem _ (inlX12 w h)) hown hK.1 hP h27 (by decide) rfl 42 (by decide) (hts _ (List.mem_cons_of_mem _ wq153)) (fun _ h => h) rfl h28 dX12_ofArrays_249 ?_
    refine lv_aload_n hx hb dX12_ofArrays_252 rfl (lv_at hl 0 rfl) ?_
    refine hs_geti (C := RX12) (T := TX12) (N := 48) hx hb hts (fun w h => List.mem_cons_of_mem _ (inlX12 w h)) hown hK.1 hP h27 (by decide) rfl 40 (by decide) (hts _ (List.mem_cons_of_mem _ wq859)) (fun _ h => h) rfl dX12_ofArrays_253 ?_
    refine lv_iconst (v := 1) hx hb dX12_ofArrays_256 (by decide) ?_
    refine lv_isub hx hb dX12_ofArrays_257 ?_
    refine lv_iload_n hx hb dX12_ofArrays_258 rfl (lv_at hl 1 rfl) ?_
    obtain ⟨h29, hf⟩ := hs_ck hf
    obtain ⟨h30, hf⟩ := hs_ck hf
    refine hs_iast hx hb hK.1 hP hS h29 h30 dX12_ofArrays_259 (fun H locs hP hS => ?_)
    exact hs_vret hx hb hr hlocks hK hP hS hf dX12_ofArrays_260

set_option maxHeartbeats 4000000 in
set_option maxRecDepth 100000 in
theorem wX12_ofArrays_j170 {p : Program} {l : Launch} {e : Env} {s : State} {m : MethodId} {args : Array Value} {below : List Frame} {meth : Method} {c : Code} {B : Nat} {D : va_G} {E : Nat → ClassId} (hX : hs_cx cX12_ofArrays none 6 RX12 wcX12_ofArrays p s m args meth c D E) {o : hs_S}  {v0 : Nat} {v1 : Int32} {v2 : Int32} {v3 : Int32} {s0 : Int32}   {g : hs_S} {H : Heap} {locs : List Loc} {ls : Array Slot} (hf : jX12_ofArrays_170 v0 v1 v2 v3 s0 g = some o) (hP : hs_P B D E g H) (hS : hs_Sx B s.heap H locs) (hl : lv_has ls 6 [(0, .ref (B + v0)), (1, .int v1), (2, .int v2), (3, .int v3)]) : W p l e rmX12_ofArrays s m args below meth c H locs 0 0 (MQ below (hs_Qv B D E o) args s 0 0 (hs_F B)) (F0 m 170 ls [.int s0]) := by
  obtain ⟨hx, hb, hr, hml, hown, hts, hlocks, hK⟩ := id hX
  unfold jX12_ofArrays_170 at hf
  refine lv_istore (lv' := [(4, .int s0), (0, .ref (B + v0)), (1, .int v1), (2, .int v2), (3, .int v3)]) hx hb dX12_ofArrays_170 hl (by decide) rfl (fun ls hl => ?_)
  refine lv_aload_n hx hb dX12_ofArrays_172 rfl (lv_at hl 1 rfl) ?_
  obtain ⟨h12, hf⟩ := hs_ck hf
  obtain ⟨r14, g13, h15, hf⟩ := hs_bd_some hf
  refine hs_calli (va_runV (As := []) (rest := []) ⟨hx, hb, hml, hown, hts⟩ (ctX12_pop l B D E v0 g _ h15) (cwV 0 hts (hs_gV (fun _ h => List.mem_cons_of_mem _ h) wq886 wq887 wq888 wq5 wq889) rfl rfl rfl (by decide +kernel) ⟨Nat.le_of_ble_eq_true rfl, Nat.le_of_ble_eq_true rfl⟩) (hs_preV (r := (RX12, TX12, 48)) hP hK h12 (by decide) rfl) rfl rfl hl.1 rfl (lv_room (Nat.le_of_ble_eq_true rfl)) dX12_ofArrays_173 ⟨(Nat.le_of_ble_eq_true rfl), (Nat.le_of_ble_eq_true rfl)⟩) hS (fun H locs hP hS => ?_)
  refine lv_istore (lv' := [(5, .int r14), (4, .int s0), (0, .ref (B + v0)), (1, .int v1), (2, .int v2), (3, .int v3)]) hx hb dX12_ofArrays_176 hl (by decide) rfl (fun ls hl => ?_)
  refine lv_iload hx hb dX12_ofArrays_178 (lv_at hl 0 rfl) ?_
  refine lv_if_lt (tgt := 194) hx hb dX12_ofArrays_180 (by decide) (fun hc => ?_) (fun hc => ?_)
  · replace hf := hs_t hf hc
    refine lv_aload_n hx hb dX12_ofArrays_194 rfl (lv_at hl 2 rfl) ?_
    refine lv_iconst (v := 2) hx hb dX12_ofArrays_195 (by decide) ?_
    obtain ⟨h16, hf⟩ := hs_ck hf
    refine hs_puti (C := RX12) (T := TX12) (N := 48) hx hb hts (fun w h => List.mem_cons_of_mem _ (inlX12 w h)) tyX12 tyX12_ok nmX12 hown hK.1 hP hS h16 (by decide) rfl 47 (by decide) (hts _ (List.mem_cons_of_mem _ wq861)) (fun _ h => h) (Or.inl rfl) rfl rfl rfl dX12_ofArrays_196 (fun H locs hP hS => ?_)
    exact hs_vret hx hb hr hlocks hK hP hS hf dX12_ofArrays_199
  · replace hf := hs_f hf hc
    refine lv_iload hx hb dX12_ofArrays_183 (lv_at hl 0 rfl) ?_
    refine lv_aload_n hx hb dX12_ofArrays_185 rfl (lv_at hl 2 rfl) ?_
    obtain ⟨h17, hf⟩ := hs_ck hf
    obtain ⟨h18, hf⟩ := hs_ck hf
    refine hs_getr (C := RX12) (T := TX12) (N := 48) hx hb hts (fun w h => List.mem_cons_of_mem _ (inlX12 w h)) hown hK.1 hP h17 (by decide) rfl 34 (by decide) (hts _ (List.mem_cons_of_mem _ wq150)) (fun _ h => h) rfl h18 dX12_ofArrays_186 ?_
    refine lv_iload_n hx hb dX12_ofArrays_189 rfl (lv_at hl 4 rfl) ?_
    obtain ⟨h19, hf⟩ := hs_ck hf
    obtain ⟨h20, hf⟩ := hs_ck hf
    refine hs_iald hx hb hK.1 hP h19 h20 dX12_ofArrays_190 ?_
    refine lv_icmp_lt (tgt := 200) hx hb dX12_ofArrays_191 (by decide) (fun hc => ?_) (fun hc => ?_)
    · replace hf := hs_t hf hc
      refine lv_iload_n hx hb dX12_ofArrays_200 rfl (lv_at hl 3 rfl) ?_
      refine lv_bipush (v := 79) hx hb dX12_ofArrays_201 (by decide) ?_
      refine lv_icmp_ne (tgt := 224) hx hb dX12_ofArrays_203 (by decide) (fun hc => ?_) (fun hc => ?_)
      · replace hf := hs_f hf hc
        refine lv_aload_n hx hb dX12_ofArrays_224 rfl (lv_at hl 2 rfl) ?_
        refine lv_aload_n hx hb dX12_ofArrays_225 rfl (lv_at hl 2 rfl) ?_
        obtain ⟨h21, hf⟩ := hs_ck hf
        refine hs_getr (C := RX12) (T := TX12) (N := 48) hx hb hts (fun w h => List.mem_cons_of_mem _ (inlX12 w h)) hown hK.1 hP h17 (by decide) rfl 35 (by decide) (hts _ (List.mem_cons_of_mem _ wq151)) (fun _ h => h) rfl h21 dX12_ofArrays_226 ?_
        refine lv_sipush (v := 1001) hx hb dX12_ofArrays_229 (by decide) ?_
        refine lv_iload_n hx hb dX12_ofArrays_232 rfl (lv_at hl 4 rfl) ?_
        refine lv_imul hx hb dX12_ofArrays_233 ?_
        refine lv_iload hx hb dX12_ofArrays_234 (lv_at hl 0 rfl) ?_
        refine lv_iadd hx hb dX12_ofArrays_236 ?_
        obtain ⟨h22, hf⟩ := hs_ck hf
        obtain ⟨h23, hf⟩ := hs_ck hf
        refine hs_iald hx hb hK.1 hP h22 h23 dX12_ofArrays_237 ?_
        obtain ⟨g24, h26, hf⟩ := hs_bv_some hf
        refine hs_callv (va_runV (As := [.int (hs_I g13 ((hs_R g13 v0 35) - 1) (((1001 : Int32) * v2) + r14).toNatClampNeg)]) (rest := []) ⟨hx, hb, hml, hown, hts⟩ (ctX12_push l B D E v0 (hs_I g13 ((hs_R g13 v0 35) - 1) (((1001 : Int32) * v2) + r14).toNatClampNeg) g13 _ h26) (cwV 1 hts (hs_gV (fun _ h => List.mem_cons_of_mem _ h) wq890 wq891 wq892 wq5 wq893) rfl rfl rfl (by decide +kernel) ⟨Nat.le_of_ble_eq_true rfl, Nat.le_of_ble_eq_true rfl⟩) (hs_preV (r := (RX12, TX12, 48)) hP hK h17 (by decide) rfl) rfl rfl hl.1 rfl (lv_room (Nat.le_of_ble_eq_true rfl)) dX12_ofArrays_238 ⟨(Nat.le_of_ble_eq_true rfl), (Nat.le_of_ble_eq_true rfl)⟩) hS (fun H locs hP hS => ?_)
        exact wX12_ofArrays_j241 hX hf hP hS (lv_sub hl [2, 5] rfl)
      · replace hf := hs_t hf hc
        refine lv_aload_n hx hb dX12_ofArrays_206 rfl (lv_at hl 2 rfl) ?_
        obtain ⟨h31, hf⟩ := hs_ck hf
        refine hs_getr (C := RX12) (T := TX12) (N := 48) hx hb hts (fun w h => List.mem_cons_of_mem _ (inlX12 w h)) hown hK.1 hP h17 (by decide) rfl 35 (by decide) (hts _ (List.mem_cons_of_mem _ wq151)) (fun _ h => h) rfl h31 dX12_ofArrays_207 ?_
        refine lv_sipush (v := 1001) hx hb dX12_ofArrays_210 (by decide) ?_
        refine lv_iload_n hx hb dX12_ofArrays_213 rfl (lv_at hl 4 rfl) ?_
        refine lv_imul hx hb dX12_ofArrays_214 ?_
        refine lv_iload hx hb dX12_ofArrays_215 (lv_at hl 0 rfl) ?_
        refine lv_iadd hx hb dX12_ofArrays_217 ?_
        refine lv_iload hx hb dX12_ofArrays_218 (lv_at hl 1 rfl) ?_
        obtain ⟨h32, hf⟩ := hs_ck hf
        obtain ⟨h33, hf⟩ := hs_ck hf
        refine hs_iast hx hb hK.1 hP hS h32 h33 dX12_ofArrays_220 (fun H locs hP hS => ?_)
        refine lv_goto (tgt := 241) hx hb dX12_ofArrays_221 (by decide) ?_
        exact wX12_ofArrays_j241 hX hf hP hS (lv_sub hl [2, 5] rfl)
    · replace hf := hs_f hf hc
      refine lv_aload_n hx hb dX12_ofArrays_194 rfl (lv_at hl 2 rfl) ?_
      refine lv_iconst (v := 2) hx hb dX12_ofArrays_195 (by decide) ?_
      refine hs_puti (C := RX12) (T := TX12) (N := 48) hx hb hts (fun w h => List.mem_cons_of_mem _ (inlX12 w h)) tyX12 tyX12_ok nmX12 hown hK.1 hP hS h17 (by decide) rfl 47 (by decide) (hts _ (List.mem_cons_of_mem _ wq861)) (fun _ h => h) (Or.inl rfl) rfl rfl rfl dX12_ofArrays_196 (fun H locs hP hS => ?_)
      exact hs_vret hx hb hr hlocks hK hP hS hf dX12_ofArrays_199

set_option maxHeartbeats 4000000 in
set_option maxRecDepth 100000 in
theorem wX12_ofArrays_j75 {p : Program} {l : Launch} {e : Env} {s : State} {m : MethodId} {args : Array Value} {below : List Frame} {meth : Method} {c : Code} {B : Nat} {D : va_G} {E : Nat → ClassId} (hX : hs_cx cX12_ofArrays none 6 RX12 wcX12_ofArrays p s m args meth c D E) {o : hs_S}  {v0 : Nat} {v4 : Int32}   {g : hs_S} {H : Heap} {locs : List Loc} {ls : Array Slot} (hf : jX12_ofArrays_75 v0 v4 g = some o) (hP : hs_P B D E g H) (hS : hs_Sx B s.heap H locs) (hl : lv_has ls 6 [(0, .ref (B + v0)), (4, .int v4)]) : W p l e rmX12_ofArrays s m args below meth c H locs 0 0 (MQ below (hs_Qv B D E o) args s 0 0 (hs_F B)) (F0 m 75 ls []) := by
  obtain ⟨hx, hb, hr, hml, hown, hts, hlocks, hK⟩ := id hX
  unfold jX12_ofArrays_75 at hf
  refine lv_aload_n hx hb dX12_ofArrays_75 rfl (lv_at hl 0 rfl) ?_
  refine lv_iload hx hb dX12_ofArrays_76 (lv_at hl 1 rfl) ?_
  refine lv_if_ge (tgt := 85) hx hb dX12_ofArrays_78 (by decide) (fun hc => ?_) (fun hc => ?_)
  · replace hf := hs_t hf hc
    refine lv_iconst (v := 4) hx hb dX12_ofArrays_85 (by decide) ?_
    obtain ⟨h49, hf⟩ := hs_ck hf
    refine hs_puti (C := RX12) (T := TX12) (N := 48) hx hb hts (fun w h => List.mem_cons_of_mem _ (inlX12 w h)) tyX12 tyX12_ok nmX12 hown hK.1 hP hS h49 (by decide) rfl 47 (by decide) (hts _ (List.mem_cons_of_mem _ wq861)) (fun _ h => h) (Or.inl rfl) rfl rfl rfl dX12_ofArrays_86 (fun H locs hP hS => ?_)
    exact hs_vret hx hb hr hlocks hK hP hS hf dX12_ofArrays_89
  · replace hf := hs_f hf hc
    refine lv_iconst (v := 3) hx hb dX12_ofArrays_81 (by decide) ?_
    refine lv_goto (tgt := 86) hx hb dX12_ofArrays_82 (by decide) ?_
    obtain ⟨h50, hf⟩ := hs_ck hf
    refine hs_puti (C := RX12) (T := TX12) (N := 48) hx hb hts (fun w h => List.mem_cons_of_mem _ (inlX12 w h)) tyX12 tyX12_ok nmX12 hown hK.1 hP hS h50 (by decide) rfl 47 (by decide) (hts _ (List.mem_cons_of_mem _ wq861)) (fun _ h => h) (Or.inl rfl) rfl rfl rfl dX12_ofArrays_86 (fun H locs hP hS => ?_)
    exact hs_vret hx hb hr hlocks hK hP hS hf dX12_ofArrays_89

set_option maxHeartbeats 4000000 in
set_option maxRecDepth 100000 in
theorem wX12_ofArrays_106 {p : Program} {l : Launch} {e : Env} {s : State} {m : MethodId} {args : Array Value} {below : List Frame} {meth : Method} {c : Code} {B : Nat} {D : va_G} {E : Nat → ClassId} (hX : hs_cx cX12_ofArrays none 6 RX12 wcX12_ofArrays p s m args meth c D E) {Q : State → Prop} {o : hs_S} {v0 : Nat} {v2 : Int32} {v3 : Int32} {v4 : Int32} (hex0 : ∀ (H : Heap) (locs : List Loc) (ls : Array Slot), hs_P B D E (o) H → hs_Sx B s.heap H locs → lv_has ls 6 [(0, .ref (B + v0)), (3, .int v3)] → W p l e rmX12_ofArrays s m args below meth c H locs 0 0 Q (F0 m 133 ls [])) : ∀ (n : Nat) (v5 : Int32) (g : hs_S), lX12_ofArrays_106 n v0 v2 v3 v4 v5 g = some o → ∀ (H : Heap) (locs : List Loc) (ls : Array Slot), hs_P B D E g H → hs_Sx B s.heap H locs → lv_has ls 6 [(0, .ref (B + v0)), (2, .int v2), (3, .int v3), (4, .int v4), (5, .int v5)] → W p l e rmX12_ofArrays s m args below meth c H locs 0 0 Q (F0 m 106 ls []) := by
  obtain ⟨hx, hb, hr, hml, hown, hts, hlocks, hK⟩ := id hX
  intro n
  induction n with
  | zero =>
    intro v5 g hf
    cases hf
  | succ n ih =>
    intro v5 g hf H locs ls hP hS hl
    replace hf := (lX12_ofArrays_106_s n v0 v2 v3 v4 v5 g).symm.trans hf
    refine lv_iload hx hb dX12_ofArrays_106 (lv_at hl 4 rfl) ?_
    refine lv_iload hx hb dX12_ofArrays_108 (lv_at hl 3 rfl) ?_
    refine lv_icmp_ge (tgt := 133) hx hb dX12_ofArrays_110 (by decide) (fun hc => ?_) (fun hc => ?_)
    · replace hf := hs_t hf hc
      obtain rfl := Option.some.inj hf
      exact hex0 _ _ _ hP hS (lv_sub hl [0, 2] rfl)
    · replace hf := hs_f hf hc
      refine lv_aload_n hx hb dX12_ofArrays_113 rfl (lv_at hl 0 rfl) ?_
      obtain ⟨h59, hf⟩ := hs_ck hf
      obtain ⟨h60, hf⟩ := hs_ck hf
      refine hs_getr (C := RX12) (T := TX12) (N := 48) hx hb hts (fun w h => List.mem_cons_of_mem _ (inlX12 w h)) hown hK.1 hP h59 (by decide) rfl 35 (by decide) (hts _ (List.mem_cons_of_mem _ wq151)) (fun _ h => h) rfl h60 dX12_ofArrays_114 ?_
      refine lv_sipush (v := 1001) hx hb dX12_ofArrays_117 (by decide) ?_
      refine lv_iload_n hx hb dX12_ofArrays_120 rfl (lv_at hl 1 rfl) ?_
      refine lv_imul hx hb dX12_ofArrays_121 ?_
      refine lv_iload hx hb dX12_ofArrays_122 (lv_at hl 4 rfl) ?_
      refine lv_iadd hx hb dX12_ofArrays_124 ?_
      refine lv_iconst (v := 0) hx hb dX12_ofArrays_125 (by decide) ?_
      obtain ⟨h61, hf⟩ := hs_ck hf
      obtain ⟨h62, hf⟩ := hs_ck hf
      refine hs_iast hx hb hK.1 hP hS h61 h62 dX12_ofArrays_126 (fun H locs hP hS => ?_)
      refine lv_iinc (v := (v5 + (1 : Int32))) (lv' := [(5, .int (v5 + (1 : Int32))), (0, .ref (B + v0)), (2, .int v2), (3, .int v3), (4, .int v4)]) hx hb dX12_ofArrays_127 hl (k := 4) rfl (by rfl) (by decide) rfl (fun ls hl => ?_)
      refine lv_goto (tgt := 106) hx hb dX12_ofArrays_130 (by decide) ?_
      exact ih _ _ hf _ _ _ hP hS (lv_sub hl [1, 2, 3, 4, 0] rfl)

set_option maxHeartbeats 4000000 in
set_option maxRecDepth 100000 in
theorem wX12_ofArrays_j16 {p : Program} {l : Launch} {e : Env} {s : State} {m : MethodId} {args : Array Value} {below : List Frame} {meth : Method} {c : Code} {B : Nat} {D : va_G} {E : Nat → ClassId} (hX : hs_cx cX12_ofArrays none 6 RX12 wcX12_ofArrays p s m args meth c D E) {o : hs_S}  {v0 : Nat} {v1 : Int32} {s0 : Int32}   {g : hs_S} {H : Heap} {locs : List Loc} {ls : Array Slot} (hf : jX12_ofArrays_16 v0 v1 s0 g = some o) (hP : hs_P B D E g H) (hS : hs_Sx B s.heap H locs) (hl : lv_has ls 6 [(0, .ref (B + v0)), (1, .int v1)]) : W p l e rmX12_ofArrays s m args below meth c H locs 0 0 (MQ below (hs_Qv B D E o) args s 0 0 (hs_F B)) (F0 m 16 ls [.int s0]) := by
  obtain ⟨hx, hb, hr, hml, hown, hts, hlocks, hK⟩ := id hX
  unfold jX12_ofArrays_16 at hf
  refine lv_istore_n (lv' := [(2, .int s0), (0, .ref (B + v0)), (1, .int v1)]) hx hb dX12_ofArrays_16 rfl hl (by decide) rfl (fun ls hl => ?_)
  refine lv_aload_n hx hb dX12_ofArrays_17 rfl (lv_at hl 1 rfl) ?_
  obtain ⟨h5, hf⟩ := hs_ck hf
  obtain ⟨h6, hf⟩ := hs_ck hf
  refine hs_getr (C := RX12) (T := TX12) (N := 48) hx hb hts (fun w h => List.mem_cons_of_mem _ (inlX12 w h)) hown hK.1 hP h5 (by decide) rfl 42 (by decide) (hts _ (List.mem_cons_of_mem _ wq153)) (fun _ h => h) rfl h6 dX12_ofArrays_18 ?_
  refine lv_aload_n hx hb dX12_ofArrays_21 rfl (lv_at hl 1 rfl) ?_
  refine hs_geti (C := RX12) (T := TX12) (N := 48) hx hb hts (fun w h => List.mem_cons_of_mem _ (inlX12 w h)) hown hK.1 hP h5 (by decide) rfl 40 (by decide) (hts _ (List.mem_cons_of_mem _ wq859)) (fun _ h => h) rfl dX12_ofArrays_22 ?_
  refine lv_iconst (v := 1) hx hb dX12_ofArrays_25 (by decide) ?_
  refine lv_isub hx hb dX12_ofArrays_26 ?_
  obtain ⟨h7, hf⟩ := hs_ck hf
  obtain ⟨h8, hf⟩ := hs_ck hf
  refine hs_iald hx hb hK.1 hP h7 h8 dX12_ofArrays_27 ?_
  refine lv_iload_n hx hb dX12_ofArrays_28 rfl (lv_at hl 2 rfl) ?_
  obtain ⟨r10, g9, h11, hf⟩ := hs_bd_some hf
  refine hs_calli (va_runS (As := [.int v1]) (rest := [.int (hs_I g ((hs_R g v0 42) - 1) ((hs_I g v0 40) - (1 : Int32)).toNatClampNeg)]) ⟨hx, hb, hml, hown, hts⟩ (ctX12_size l B D E v1 g _ h11) (va_cwS 1 hts (hs_gS (fun _ h => List.mem_cons_of_mem _ h) wq423 wq424 wq5 wq425) rfl rfl rfl (by decide +kernel) ⟨Nat.le_of_ble_eq_true rfl, Nat.le_of_ble_eq_true rfl⟩) (hs_pre hP hK) rfl rfl hl.1 rfl (lv_room (Nat.le_of_ble_eq_true rfl)) dX12_ofArrays_29 ⟨(Nat.le_of_ble_eq_true rfl), (Nat.le_of_ble_eq_true rfl)⟩) hS (fun H locs hP hS => ?_)
  refine lv_iadd hx hb dX12_ofArrays_32 ?_
  refine lv_istore_n (lv' := [(3, .int ((hs_I g ((hs_R g v0 42) - 1) ((hs_I g v0 40) - (1 : Int32)).toNatClampNeg) + r10)), (2, .int s0), (0, .ref (B + v0)), (1, .int v1)]) hx hb dX12_ofArrays_33 rfl hl (by decide) rfl (fun ls hl => ?_)
  refine lv_iload_n hx hb dX12_ofArrays_34 rfl (lv_at hl 3 rfl) ?_
  refine lv_sipush (v := 191) hx hb dX12_ofArrays_35 (by decide) ?_
  refine lv_icmp_ne (tgt := 49) hx hb dX12_ofArrays_38 (by decide) (fun hc => ?_) (fun hc => ?_)
  · replace hf := hs_f hf hc
    refine lv_iload_n hx hb dX12_ofArrays_49 rfl (lv_at hl 3 rfl) ?_
    refine lv_sipush (v := 188) hx hb dX12_ofArrays_50 (by decide) ?_
    refine lv_icmp_ne (tgt := 136) hx hb dX12_ofArrays_53 (by decide) (fun hc => ?_) (fun hc => ?_)
    · replace hf := hs_f hf hc
      refine lv_iload_n hx hb dX12_ofArrays_136 rfl (lv_at hl 3 rfl) ?_
      refine lv_sipush (v := 190) hx hb dX12_ofArrays_137 (by decide) ?_
      refine lv_icmp_ne (tgt := 156) hx hb dX12_ofArrays_140 (by decide) (fun hc => ?_) (fun hc => ?_)
      · replace hf := hs_f hf hc
        refine lv_iload_n hx hb dX12_ofArrays_156 rfl (lv_at hl 3 rfl) ?_
        refine lv_bipush (v := 79) hx hb dX12_ofArrays_157 (by decide) ?_
        refine lv_icmp_ne (tgt := 169) hx hb dX12_ofArrays_159 (by decide) (fun hc => ?_) (fun hc => ?_)
        · replace hf := hs_f hf hc
          refine lv_iconst (v := 0) hx hb dX12_ofArrays_169 (by decide) ?_
          exact wX12_ofArrays_j170 hX hf hP hS (lv_sub hl [2, 3, 1, 0] rfl)
        · replace hf := hs_t hf hc
          refine lv_aload_n hx hb dX12_ofArrays_162 rfl (lv_at hl 2 rfl) ?_
          obtain ⟨h34, hf⟩ := hs_ck hf
          obtain ⟨r36, g35, h37, hf⟩ := hs_bd_some hf
          refine hs_calli (va_runV (As := []) (rest := []) ⟨hx, hb, hml, hown, hts⟩ (ctX12_pop l B D E v0 g9 _ h37) (cwV 0 hts (hs_gV (fun _ h => List.mem_cons_of_mem _ h) wq886 wq887 wq888 wq5 wq889) rfl rfl rfl (by decide +kernel) ⟨Nat.le_of_ble_eq_true rfl, Nat.le_of_ble_eq_true rfl⟩) (hs_preV (r := (RX12, TX12, 48)) hP hK h34 (by decide) rfl) rfl rfl hl.1 rfl (lv_room (Nat.le_of_ble_eq_true rfl)) dX12_ofArrays_163 ⟨(Nat.le_of_ble_eq_true rfl), (Nat.le_of_ble_eq_true rfl)⟩) hS (fun H locs hP hS => ?_)
          refine lv_goto (tgt := 170) hx hb dX12_ofArrays_166 (by decide) ?_
          exact wX12_ofArrays_j170 hX hf hP hS (lv_sub hl [2, 3, 1, 0] rfl)
      · replace hf := hs_t hf hc
        refine lv_aload_n hx hb dX12_ofArrays_143 rfl (lv_at hl 2 rfl) ?_
        refine lv_aload_n hx hb dX12_ofArrays_144 rfl (lv_at hl 2 rfl) ?_
        obtain ⟨h38, hf⟩ := hs_ck hf
        obtain ⟨h39, hf⟩ := hs_ck hf
        refine hs_getr (C := RX12) (T := TX12) (N := 48) hx hb hts (fun w h => List.mem_cons_of_mem _ (inlX12 w h)) hown hK.1 hP h38 (by decide) rfl 34 (by decide) (hts _ (List.mem_cons_of_mem _ wq150)) (fun _ h => h) rfl h39 dX12_ofArrays_145 ?_
        refine lv_iload_n hx hb dX12_ofArrays_148 rfl (lv_at hl 1 rfl) ?_
        obtain ⟨h40, hf⟩ := hs_ck hf
        obtain ⟨h41, hf⟩ := hs_ck hf
        refine hs_iald hx hb hK.1 hP h40 h41 dX12_ofArrays_149 ?_
        obtain ⟨g42, h44, hf⟩ := hs_bv_some hf
        refine hs_callv (va_runV (As := [.int (hs_I g9 ((hs_R g9 v0 34) - 1) s0.toNatClampNeg)]) (rest := []) ⟨hx, hb, hml, hown, hts⟩ (ctX12_push l B D E v0 (hs_I g9 ((hs_R g9 v0 34) - 1) s0.toNatClampNeg) g9 _ h44) (cwV 1 hts (hs_gV (fun _ h => List.mem_cons_of_mem _ h) wq890 wq891 wq892 wq5 wq893) rfl rfl rfl (by decide +kernel) ⟨Nat.le_of_ble_eq_true rfl, Nat.le_of_ble_eq_true rfl⟩) (hs_preV (r := (RX12, TX12, 48)) hP hK h38 (by decide) rfl) rfl rfl hl.1 rfl (lv_room (Nat.le_of_ble_eq_true rfl)) dX12_ofArrays_150 ⟨(Nat.le_of_ble_eq_true rfl), (Nat.le_of_ble_eq_true rfl)⟩) hS (fun H locs hP hS => ?_)
        refine lv_goto (tgt := 241) hx hb dX12_ofArrays_153 (by decide) ?_
        exact wX12_ofArrays_j241 hX hf hP hS (lv_sub hl [2, 0] rfl)
    · replace hf := hs_t hf hc
      refine lv_aload_n hx hb dX12_ofArrays_56 rfl (lv_at hl 2 rfl) ?_
      obtain ⟨h45, hf⟩ := hs_ck hf
      obtain ⟨r47, g46, h48, hf⟩ := hs_bd_some hf
      refine hs_calli (va_runV (As := []) (rest := []) ⟨hx, hb, hml, hown, hts⟩ (ctX12_top l B D E v0 g9 _ h48) (cwV 0 hts (hs_gV (fun _ h => List.mem_cons_of_mem _ h) wq878 wq879 wq880 wq5 wq881) rfl rfl rfl (by decide +kernel) ⟨Nat.le_of_ble_eq_true rfl, Nat.le_of_ble_eq_true rfl⟩) (hs_preV (r := (RX12, TX12, 48)) hP hK h45 (by decide) rfl) rfl rfl hl.1 rfl (lv_room (Nat.le_of_ble_eq_true rfl)) dX12_ofArrays_57 ⟨(Nat.le_of_ble_eq_true rfl), (Nat.le_of_ble_eq_true rfl)⟩) hS (fun H locs hP hS => ?_)
      refine lv_istore (lv' := [(4, .int r47), (3, .int ((hs_I g ((hs_R g v0 42) - 1) ((hs_I g v0 40) - (1 : Int32)).toNatClampNeg) + r10)), (2, .int s0), (0, .ref (B + v0)), (1, .int v1)]) hx hb dX12_ofArrays_60 hl (by decide) rfl (fun ls hl => ?_)
      refine lv_iload hx hb dX12_ofArrays_62 (lv_at hl 0 rfl) ?_
      refine lv_if_lt (tgt := 75) hx hb dX12_ofArrays_64 (by decide) (fun hc => ?_) (fun hc => ?_)
      · replace hf := hs_t hf hc
        exact wX12_ofArrays_j75 hX hf hP hS (lv_sub hl [3, 0] rfl)
      · replace hf := hs_f hf hc
        refine lv_iload hx hb dX12_ofArrays_67 (lv_at hl 0 rfl) ?_
        refine lv_sipush (v := 1000) hx hb dX12_ofArrays_69 (by decide) ?_
        refine lv_icmp_le (tgt := 90) hx hb dX12_ofArrays_72 (by decide) (fun hc => ?_) (fun hc => ?_)
        · replace hf := hs_t hf hc
          refine lv_aload_n hx hb dX12_ofArrays_90 rfl (lv_at hl 3 rfl) ?_
          obtain ⟨h51, hf⟩ := hs_ck hf
          obtain ⟨r53, g52, h54, hf⟩ := hs_bd_some hf
          refine hs_calli (va_runV (As := []) (rest := []) ⟨hx, hb, hml, hown, hts⟩ (ctX12_pop l B D E v0 g46 _ h54) (cwV 0 hts (hs_gV (fun _ h => List.mem_cons_of_mem _ h) wq886 wq887 wq888 wq5 wq889) rfl rfl rfl (by decide +kernel) ⟨Nat.le_of_ble_eq_true rfl, Nat.le_of_ble_eq_true rfl⟩) (hs_preV (r := (RX12, TX12, 48)) hP hK h51 (by decide) rfl) rfl rfl hl.1 rfl (lv_room (Nat.le_of_ble_eq_true rfl)) dX12_ofArrays_91 ⟨(Nat.le_of_ble_eq_true rfl), (Nat.le_of_ble_eq_true rfl)⟩) hS (fun H locs hP hS => ?_)
          refine lv_pop hx hb dX12_ofArrays_94 rfl ?_
          refine lv_aload_n hx hb dX12_ofArrays_95 rfl (lv_at hl 3 rfl) ?_
          obtain ⟨h55, hf⟩ := hs_ck hf
          obtain ⟨h56, hf⟩ := hs_ck hf
          refine hs_getr (C := RX12) (T := TX12) (N := 48) hx hb hts (fun w h => List.mem_cons_of_mem _ (inlX12 w h)) hown hK.1 hP h55 (by decide) rfl 34 (by decide) (hts _ (List.mem_cons_of_mem _ wq150)) (fun _ h => h) rfl h56 dX12_ofArrays_96 ?_
          refine lv_iload_n hx hb dX12_ofArrays_99 rfl (lv_at hl 2 rfl) ?_
          refine lv_iload hx hb dX12_ofArrays_100 (lv_at hl 0 rfl) ?_
          obtain ⟨h57, hf⟩ := hs_ck hf
          obtain ⟨h58, hf⟩ := hs_ck hf
          refine hs_iast hx hb hK.1 hP hS h57 h58 dX12_ofArrays_102 (fun H locs hP hS => ?_)
          refine lv_iconst (v := 0) hx hb dX12_ofArrays_103 (by decide) ?_
          refine lv_istore (lv' := [(5, .int (0 : Int32)), (4, .int r47), (3, .int ((hs_I g ((hs_R g v0 42) - 1) ((hs_I g v0 40) - (1 : Int32)).toNatClampNeg) + r10)), (2, .int s0), (0, .ref (B + v0)), (1, .int v1)]) hx hb dX12_ofArrays_104 hl (by decide) rfl (fun ls hl => ?_)
          obtain ⟨g64, h65, hf⟩ := hs_bv_some hf
          refine wX12_ofArrays_106 hX (fun H locs ls hP hS hl => ?_) hs_N _ _ h65 _ _ _ hP hS (lv_sub hl [4, 3, 2, 1, 0] rfl)
          refine lv_goto (tgt := 241) hx hb dX12_ofArrays_133 (by decide) ?_
          exact wX12_ofArrays_j241 hX hf hP hS (lv_sub hl [0, 1] rfl)
        · replace hf := hs_f hf hc
          exact wX12_ofArrays_j75 hX hf hP hS (lv_sub hl [3, 0] rfl)
  · replace hf := hs_t hf hc
    refine lv_aload_n hx hb dX12_ofArrays_41 rfl (lv_at hl 2 rfl) ?_
    refine lv_iconst (v := 4) hx hb dX12_ofArrays_42 (by decide) ?_
    obtain ⟨h66, hf⟩ := hs_ck hf
    refine hs_puti (C := RX12) (T := TX12) (N := 48) hx hb hts (fun w h => List.mem_cons_of_mem _ (inlX12 w h)) tyX12 tyX12_ok nmX12 hown hK.1 hP hS h66 (by decide) rfl 47 (by decide) (hts _ (List.mem_cons_of_mem _ wq861)) (fun _ h => h) (Or.inl rfl) rfl rfl rfl dX12_ofArrays_43 (fun H locs hP hS => ?_)
    refine lv_goto (tgt := 241) hx hb dX12_ofArrays_46 (by decide) ?_
    exact wX12_ofArrays_j241 hX hf hP hS (lv_sub hl [2, 0] rfl)

set_option maxHeartbeats 4000000 in
set_option maxRecDepth 100000 in
theorem ctX12_ofArrays (l : Launch) (B : Nat) (D : va_G) (E : Nat → ClassId) (v0 : Nat) (v1 : Int32) (g : hs_S) (o : hs_S) (hf : fX12_ofArrays v0 v1 g = some o) : Met l yX12_ofArrays wcX12_ofArrays rmX12_ofArrays (hs_Pc B D E g [.ref (B + v0), .int v1]) (hs_Qv B D E o) (0) (0) (hs_F B) := by
  refine Met.ofW (cc := cX12_ofArrays) (maxL := 6) (ret := none) (by decide) rfl ?_
  intro p e s m args below meth c s₁ Bd hml hv
  obtain ⟨rfl, hP, hK⟩ := hv
  have hx := Bd.exec
  have hb := Bd.bytes
  have hr := Bd.returns
  have hts := atoms_spec (ws := wcX12_ofArrays) Bd.pre
  have hown : s.vm.findClass RX12 = some m.cls := findClass_of_methodNamed Bd.named
  have hlocks := Bd.notSynchronized
  have hS : hs_Sx B s.heap s.heap [] := va_S.rf
  have hX : hs_cx cX12_ofArrays none 6 RX12 wcX12_ofArrays p s m (List.toArray [.ref (B + v0), .int v1]) meth c D E := ⟨hx, hb, hr, hml, hown, hts, hlocks, hK⟩
  have hl := lv_entry ([.ref (B + v0), .int v1]) (n := 6) (Nat.le_of_ble_eq_true rfl)
  rw [lg_entry_eq]
  generalize (lg_sl ([.ref (B + v0), .int v1]) ++ List.replicate (6 - (lg_sl ([.ref (B + v0), .int v1])).length) Slot.unset).toArray = ls at hl ⊢
  have hl : lv_has ls 6 [(0, .ref (B + v0)), (1, .int v1)] := hl
  have hP : hs_P B D E g s.heap := hP
  unfold fX12_ofArrays at hf
  refine lv_iload_n hx hb dX12_ofArrays_0 rfl (lv_at hl 1 rfl) ?_
  refine lv_sipush (v := 191) hx hb dX12_ofArrays_1 (by decide) ?_
  refine lv_icmp_ne (tgt := 11) hx hb dX12_ofArrays_4 (by decide) (fun hc => ?_) (fun hc => ?_)
  · replace hf := hs_f hf hc
    refine lv_aload_n hx hb dX12_ofArrays_11 rfl (lv_at hl 0 rfl) ?_
    refine lv_iconst (v := 1) hx hb dX12_ofArrays_12 (by decide) ?_
    obtain ⟨h1, hf⟩ := hs_ck hf
    obtain ⟨r3, g2, h4, hf⟩ := hs_bd_some hf
    refine hs_calli (va_runV (As := [.int (1 : Int32)]) (rest := []) ⟨hx, hb, hml, hown, hts⟩ (ctX12_codeAt l B D E v0 (1 : Int32) g _ h4) (cwV 1 hts (hs_gV (fun _ h => List.mem_cons_of_mem _ h) wq870 wq871 wq872 wq5 wq873) rfl rfl rfl (by decide +kernel) ⟨Nat.le_of_ble_eq_true rfl, Nat.le_of_ble_eq_true rfl⟩) (hs_preV (r := (RX12, TX12, 48)) hP hK h1 (by decide) rfl) rfl rfl hl.1 rfl (lv_room (Nat.le_of_ble_eq_true rfl)) dX12_ofArrays_13 ⟨(Nat.le_of_ble_eq_true rfl), (Nat.le_of_ble_eq_true rfl)⟩) hS (fun H locs hP hS => ?_)
    exact wX12_ofArrays_j16 hX hf hP hS (lv_sub hl [0, 1] rfl)
  · replace hf := hs_t hf hc
    refine lv_iconst (v := 0) hx hb dX12_ofArrays_7 (by decide) ?_
    refine lv_goto (tgt := 16) hx hb dX12_ofArrays_8 (by decide) ?_
    exact wX12_ofArrays_j16 hX hf hP hS (lv_sub hl [0, 1] rfl)

theorem dX12_reckoned_0 : decode cX12_reckoned 0 = .ok (.iload_n 0, 1) := by decide +kernel
theorem dX12_reckoned_1 : decode cX12_reckoned 1 = .ok (.lookupswitch 95 #[(96, 67), (100, 71), (104, 75), (108, 79), (112, 83), (126, 87), (128, 91)], 67) := by decide +kernel
theorem dX12_reckoned_68 : decode cX12_reckoned 68 = .ok (.iload_n 1, 1) := by decide +kernel
theorem dX12_reckoned_69 : decode cX12_reckoned 69 = .ok (.iload_n 2, 1) := by decide +kernel
theorem dX12_reckoned_70 : decode cX12_reckoned 70 = .ok (.iadd, 1) := by decide +kernel
theorem dX12_reckoned_71 : decode cX12_reckoned 71 = .ok (.ireturn, 1) := by decide +kernel
theorem dX12_reckoned_72 : decode cX12_reckoned 72 = .ok (.iload_n 1, 1) := by decide +kernel
theorem dX12_reckoned_73 : decode cX12_reckoned 73 = .ok (.iload_n 2, 1) := by decide +kernel
theorem dX12_reckoned_74 : decode cX12_reckoned 74 = .ok (.isub, 1) := by decide +kernel
theorem dX12_reckoned_75 : decode cX12_reckoned 75 = .ok (.ireturn, 1) := by decide +kernel
theorem dX12_reckoned_76 : decode cX12_reckoned 76 = .ok (.iload_n 1, 1) := by decide +kernel
theorem dX12_reckoned_77 : decode cX12_reckoned 77 = .ok (.iload_n 2, 1) := by decide +kernel
theorem dX12_reckoned_78 : decode cX12_reckoned 78 = .ok (.imul, 1) := by decide +kernel
theorem dX12_reckoned_79 : decode cX12_reckoned 79 = .ok (.ireturn, 1) := by decide +kernel
theorem dX12_reckoned_80 : decode cX12_reckoned 80 = .ok (.iload_n 1, 1) := by decide +kernel
theorem dX12_reckoned_81 : decode cX12_reckoned 81 = .ok (.iload_n 2, 1) := by decide +kernel
theorem dX12_reckoned_82 : decode cX12_reckoned 82 = .ok (.idiv, 1) := by decide +kernel
theorem dX12_reckoned_83 : decode cX12_reckoned 83 = .ok (.ireturn, 1) := by decide +kernel
theorem dX12_reckoned_84 : decode cX12_reckoned 84 = .ok (.iload_n 1, 1) := by decide +kernel
theorem dX12_reckoned_85 : decode cX12_reckoned 85 = .ok (.iload_n 2, 1) := by decide +kernel
theorem dX12_reckoned_86 : decode cX12_reckoned 86 = .ok (.irem, 1) := by decide +kernel
theorem dX12_reckoned_87 : decode cX12_reckoned 87 = .ok (.ireturn, 1) := by decide +kernel
theorem dX12_reckoned_88 : decode cX12_reckoned 88 = .ok (.iload_n 1, 1) := by decide +kernel
theorem dX12_reckoned_89 : decode cX12_reckoned 89 = .ok (.iload_n 2, 1) := by decide +kernel
theorem dX12_reckoned_90 : decode cX12_reckoned 90 = .ok (.iand, 1) := by decide +kernel
theorem dX12_reckoned_91 : decode cX12_reckoned 91 = .ok (.ireturn, 1) := by decide +kernel
theorem dX12_reckoned_92 : decode cX12_reckoned 92 = .ok (.iload_n 1, 1) := by decide +kernel
theorem dX12_reckoned_93 : decode cX12_reckoned 93 = .ok (.iload_n 2, 1) := by decide +kernel
theorem dX12_reckoned_94 : decode cX12_reckoned 94 = .ok (.ior, 1) := by decide +kernel
theorem dX12_reckoned_95 : decode cX12_reckoned 95 = .ok (.ireturn, 1) := by decide +kernel
theorem dX12_reckoned_96 : decode cX12_reckoned 96 = .ok (.iload_n 1, 1) := by decide +kernel
theorem dX12_reckoned_97 : decode cX12_reckoned 97 = .ok (.iload_n 2, 1) := by decide +kernel
theorem dX12_reckoned_98 : decode cX12_reckoned 98 = .ok (.ixor, 1) := by decide +kernel
theorem dX12_reckoned_99 : decode cX12_reckoned 99 = .ok (.ireturn, 1) := by decide +kernel
abbrev wcX12_reckoned : List Cond := .code yX12_reckoned cX12_reckoned 3 (some .int) :: wsL_law
def fX12_reckoned (v0 : Int32) (v1 : Int32) (v2 : Int32) (g : hs_S) : Option (Int32 × hs_S) :=
  if v0 = (96 : Int32) then (
    some ((v1 + v2), g)
  ) else (
  if v0 = (100 : Int32) then (
    some ((v1 - v2), g)
  ) else (
  if v0 = (104 : Int32) then (
    some ((v1 * v2), g)
  ) else (
  if v0 = (108 : Int32) then (
    if ¬ v2 = 0 then
    some ((v1 / v2), g)
    else none
  ) else (
  if v0 = (112 : Int32) then (
    if ¬ v2 = 0 then
    some ((v1 - v1 / v2 * v2), g)
    else none
  ) else (
  if v0 = (126 : Int32) then (
    some ((v1 &&& v2), g)
  ) else (
  if v0 = (128 : Int32) then (
    some ((v1 ||| v2), g)
  ) else (
    some ((v1 ^^^ v2), g)
  )))))))
abbrev rmX12_reckoned : Room := { frames := 0, cells := 0, slots := 0, locals := 0 }
set_option maxHeartbeats 4000000 in
set_option maxRecDepth 100000 in
theorem ctX12_reckoned (l : Launch) (B : Nat) (D : va_G) (E : Nat → ClassId) (v0 : Int32) (v1 : Int32) (v2 : Int32) (g : hs_S) (o : Int32 × hs_S) (hf : fX12_reckoned v0 v1 v2 g = some o) : Met l yX12_reckoned wcX12_reckoned rmX12_reckoned (hs_Pc B D E g [.int v0, .int v1, .int v2]) (hs_Qi B D E o) (0) (0) (hs_F B) := by
  refine Met.ofW (cc := cX12_reckoned) (maxL := 3) (ret := (some .int)) (by decide) rfl ?_
  intro p e s m args below meth c s₁ Bd hml hv
  obtain ⟨rfl, hP, hK⟩ := hv
  have hx := Bd.exec
  have hb := Bd.bytes
  have hr := Bd.returns
  have hts := atoms_spec (ws := wcX12_reckoned) Bd.pre
  have hown : s.vm.findClass RX12 = some m.cls := findClass_of_methodNamed Bd.named
  have hlocks := Bd.notSynchronized
  have hS : hs_Sx B s.heap s.heap [] := va_S.rf
  have hX : hs_cx cX12_reckoned (some .int) 3 RX12 wcX12_reckoned p s m (List.toArray [.int v0, .int v1, .int v2]) meth c D E := ⟨hx, hb, hr, hml, hown, hts, hlocks, hK⟩
  have hl := lv_entry ([.int v0, .int v1, .int v2]) (n := 3) (Nat.le_of_ble_eq_true rfl)
  rw [lg_entry_eq]
  generalize (lg_sl ([.int v0, .int v1, .int v2]) ++ List.replicate (3 - (lg_sl ([.int v0, .int v1, .int v2])).length) Slot.unset).toArray = ls at hl ⊢
  have hl : lv_has ls 3 [(0, .int v0), (1, .int v1), (2, .int v2)] := hl
  have hP : hs_P B D E g s.heap := hP
  unfold fX12_reckoned at hf
  refine lv_iload_n hx hb dX12_reckoned_0 rfl (lv_at hl 0 rfl) ?_
  by_cases hc : v0 = (96 : Int32)
  · replace hf := hs_t hf hc
    refine lv_lookup (off := 67) (tgt := 68) hx hb dX12_reckoned_1 (by decide +kernel) (by rw [hc]; first | done | decide +kernel) (by decide) ?_
    refine lv_iload_n hx hb dX12_reckoned_68 rfl (lv_at hl 1 rfl) ?_
    refine lv_iload_n hx hb dX12_reckoned_69 rfl (lv_at hl 2 rfl) ?_
    refine lv_iadd hx hb dX12_reckoned_70 ?_
    exact hs_iret hx hb hr hlocks rfl hK hP hS hf dX12_reckoned_71
  have hn0 := hc
  replace hf := hs_f hf hc
  clear hc
  by_cases hc : v0 = (100 : Int32)
  · replace hf := hs_t hf hc
    refine lv_lookup (off := 71) (tgt := 72) hx hb dX12_reckoned_1 (by decide +kernel) (by rw [hc]; first | done | decide +kernel) (by decide) ?_
    refine lv_iload_n hx hb dX12_reckoned_72 rfl (lv_at hl 1 rfl) ?_
    refine lv_iload_n hx hb dX12_reckoned_73 rfl (lv_at hl 2 rfl) ?_
    refine lv_isub hx hb dX12_reckoned_74 ?_
    exact hs_iret hx hb hr hlocks rfl hK hP hS hf dX12_reckoned_75
  have hn1 := hc
  replace hf := hs_f hf hc
  clear hc
  by_cases hc : v0 = (104 : Int32)
  · replace hf := hs_t hf hc
    refine lv_lookup (off := 75) (tgt := 76) hx hb dX12_reckoned_1 (by decide +kernel) (by rw [hc]; first | done | decide +kernel) (by decide) ?_
    refine lv_iload_n hx hb dX12_reckoned_76 rfl (lv_at hl 1 rfl) ?_
    refine lv_iload_n hx hb dX12_reckoned_77 rfl (lv_at hl 2 rfl) ?_
    refine lv_imul hx hb dX12_reckoned_78 ?_
    exact hs_iret hx hb hr hlocks rfl hK hP hS hf dX12_reckoned_79
  have hn2 := hc
  replace hf := hs_f hf hc
  clear hc
  by_cases hc : v0 = (108 : Int32)
  · replace hf := hs_t hf hc
    refine lv_lookup (off := 79) (tgt := 80) hx hb dX12_reckoned_1 (by decide +kernel) (by rw [hc]; first | done | decide +kernel) (by decide) ?_
    refine lv_iload_n hx hb dX12_reckoned_80 rfl (lv_at hl 1 rfl) ?_
    refine lv_iload_n hx hb dX12_reckoned_81 rfl (lv_at hl 2 rfl) ?_
    obtain ⟨h1, hf⟩ := hs_ck hf
    refine lv_idiv hx hb dX12_reckoned_82 h1 ?_
    exact hs_iret hx hb hr hlocks rfl hK hP hS hf dX12_reckoned_83
  have hn3 := hc
  replace hf := hs_f hf hc
  clear hc
  by_cases hc : v0 = (112 : Int32)
  · replace hf := hs_t hf hc
    refine lv_lookup (off := 83) (tgt := 84) hx hb dX12_reckoned_1 (by decide +kernel) (by rw [hc]; first | done | decide +kernel) (by decide) ?_
    refine lv_iload_n hx hb dX12_reckoned_84 rfl (lv_at hl 1 rfl) ?_
    refine lv_iload_n hx hb dX12_reckoned_85 rfl (lv_at hl 2 rfl) ?_
    obtain ⟨h2, hf⟩ := hs_ck hf
    refine lv_irem hx hb dX12_reckoned_86 h2 ?_
    exact hs_iret hx hb hr hlocks rfl hK hP hS hf dX12_reckoned_87
  have hn4 := hc
  replace hf := hs_f hf hc
  clear hc
  by_cases hc : v0 = (126 : Int32)
  · replace hf := hs_t hf hc
    refine lv_lookup (off := 87) (tgt := 88) hx hb dX12_reckoned_1 (by decide +kernel) (by rw [hc]; first | done | decide +kernel) (by decide) ?_
    refine lv_iload_n hx hb dX12_reckoned_88 rfl (lv_at hl 1 rfl) ?_
    refine lv_iload_n hx hb dX12_reckoned_89 rfl (lv_at hl 2 rfl) ?_
    refine lv_iand hx hb dX12_reckoned_90 ?_
    exact hs_iret hx hb hr hlocks rfl hK hP hS hf dX12_reckoned_91
  have hn5 := hc
  replace hf := hs_f hf hc
  clear hc
  by_cases hc : v0 = (128 : Int32)
  · replace hf := hs_t hf hc
    refine lv_lookup (off := 91) (tgt := 92) hx hb dX12_reckoned_1 (by decide +kernel) (by rw [hc]; first | done | decide +kernel) (by decide) ?_
    refine lv_iload_n hx hb dX12_reckoned_92 rfl (lv_at hl 1 rfl) ?_
    refine lv_iload_n hx hb dX12_reckoned_93 rfl (lv_at hl 2 rfl) ?_
    refine lv_ior hx hb dX12_reckoned_94 ?_
    exact hs_iret hx hb hr hlocks rfl hK hP hS hf dX12_reckoned_95
  have hn6 := hc
  replace hf := hs_f hf hc
  clear hc
  refine lv_lookup (off := 95) (tgt := 96) hx hb dX12_reckoned_1 (by decide +kernel) (by simp only [Array.toList]; rw [lv_osw (a := 96) hn0 rfl, lv_osw (a := 100) hn1 rfl, lv_osw (a := 104) hn2 rfl, lv_osw (a := 108) hn3 rfl, lv_osw (a := 112) hn4 rfl, lv_osw (a := 126) hn5 rfl, lv_osw (a := 128) hn6 rfl]; first | done | rfl) (by decide) ?_
  refine lv_iload_n hx hb dX12_reckoned_96 rfl (lv_at hl 1 rfl) ?_
  refine lv_iload_n hx hb dX12_reckoned_97 rfl (lv_at hl 2 rfl) ?_
  refine lv_ixor hx hb dX12_reckoned_98 ?_
  exact hs_iret hx hb hr hlocks rfl hK hP hS hf dX12_reckoned_99

theorem dX12_plain_0 : decode cX12_plain 0 = .ok (.aload_n 0, 1) := by decide +kernel
theorem dX12_plain_1 : decode cX12_plain 1 = .ok (.getfield 254, 3) := by decide +kernel
theorem dX12_plain_4 : decode cX12_plain 4 = .ok (.iconst 1, 1) := by decide +kernel
theorem dX12_plain_5 : decode cX12_plain 5 = .ok (.isub, 1) := by decide +kernel
theorem dX12_plain_6 : decode cX12_plain 6 = .ok (.istore_n 2, 1) := by decide +kernel
theorem dX12_plain_7 : decode cX12_plain 7 = .ok (.iload_n 1, 1) := by decide +kernel
theorem dX12_plain_8 : decode cX12_plain 8 = .ok (.invokestatic 120, 3) := by decide +kernel
theorem dX12_plain_11 : decode cX12_plain 11 = .ok (.iconst 1, 1) := by decide +kernel
theorem dX12_plain_12 : decode cX12_plain 12 = .ok (.if_icmp .le 11, 3) := by decide +kernel
theorem dX12_plain_15 : decode cX12_plain 15 = .ok (.aload_n 0, 1) := by decide +kernel
theorem dX12_plain_16 : decode cX12_plain 16 = .ok (.iconst 1, 1) := by decide +kernel
theorem dX12_plain_17 : decode cX12_plain 17 = .ok (.invokevirtual 276, 3) := by decide +kernel
theorem dX12_plain_20 : decode cX12_plain 20 = .ok (.goto 4, 3) := by decide +kernel
theorem dX12_plain_23 : decode cX12_plain 23 = .ok (.iconst 0, 1) := by decide +kernel
theorem dX12_plain_24 : decode cX12_plain 24 = .ok (.istore_n 3, 1) := by decide +kernel
theorem dX12_plain_25 : decode cX12_plain 25 = .ok (.aload_n 0, 1) := by decide +kernel
theorem dX12_plain_26 : decode cX12_plain 26 = .ok (.getfield 105, 3) := by decide +kernel
theorem dX12_plain_29 : decode cX12_plain 29 = .ok (.iload_n 2, 1) := by decide +kernel
theorem dX12_plain_30 : decode cX12_plain 30 = .ok (.iaload, 1) := by decide +kernel
theorem dX12_plain_31 : decode cX12_plain 31 = .ok (.iload_n 1, 1) := by decide +kernel
theorem dX12_plain_32 : decode cX12_plain 32 = .ok (.invokestatic 120, 3) := by decide +kernel
theorem dX12_plain_35 : decode cX12_plain 35 = .ok (.iadd, 1) := by decide +kernel
theorem dX12_plain_36 : decode cX12_plain 36 = .ok (.istore 4, 2) := by decide +kernel
theorem dX12_plain_38 : decode cX12_plain 38 = .ok (.iload_n 1, 1) := by decide +kernel
theorem dX12_plain_39 : decode cX12_plain 39 = .ok (.bipush 16, 2) := by decide +kernel
theorem dX12_plain_41 : decode cX12_plain 41 = .ok (.if_icmp .ne 14, 3) := by decide +kernel
theorem dX12_plain_44 : decode cX12_plain 44 = .ok (.aload_n 0, 1) := by decide +kernel
theorem dX12_plain_45 : decode cX12_plain 45 = .ok (.iload_n 3, 1) := by decide +kernel
theorem dX12_plain_46 : decode cX12_plain 46 = .ok (.invokestatic 134, 3) := by decide +kernel
theorem dX12_plain_49 : decode cX12_plain 49 = .ok (.invokevirtual 303, 3) := by decide +kernel
theorem dX12_plain_52 : decode cX12_plain 52 = .ok (.goto 178, 3) := by decide +kernel
theorem dX12_plain_55 : decode cX12_plain 55 = .ok (.iload_n 1, 1) := by decide +kernel
theorem dX12_plain_56 : decode cX12_plain 56 = .ok (.bipush 17, 2) := by decide +kernel
theorem dX12_plain_58 : decode cX12_plain 58 = .ok (.if_icmp .ne 24, 3) := by decide +kernel
theorem dX12_plain_61 : decode cX12_plain 61 = .ok (.aload_n 0, 1) := by decide +kernel
theorem dX12_plain_62 : decode cX12_plain 62 = .ok (.sipush 256, 3) := by decide +kernel
theorem dX12_plain_65 : decode cX12_plain 65 = .ok (.iload_n 3, 1) := by decide +kernel
theorem dX12_plain_66 : decode cX12_plain 66 = .ok (.imul, 1) := by decide +kernel
theorem dX12_plain_67 : decode cX12_plain 67 = .ok (.aload_n 0, 1) := by decide +kernel
theorem dX12_plain_68 : decode cX12_plain 68 = .ok (.iconst 2, 1) := by decide +kernel
theorem dX12_plain_69 : decode cX12_plain 69 = .ok (.invokevirtual 276, 3) := by decide +kernel
theorem dX12_plain_72 : decode cX12_plain 72 = .ok (.iadd, 1) := by decide +kernel
theorem dX12_plain_73 : decode cX12_plain 73 = .ok (.invokestatic 131, 3) := by decide +kernel
theorem dX12_plain_76 : decode cX12_plain 76 = .ok (.invokevirtual 303, 3) := by decide +kernel
theorem dX12_plain_79 : decode cX12_plain 79 = .ok (.goto 151, 3) := by decide +kernel
theorem dX12_plain_82 : decode cX12_plain 82 = .ok (.iload_n 1, 1) := by decide +kernel
theorem dX12_plain_83 : decode cX12_plain 83 = .ok (.bipush 21, 2) := by decide +kernel
theorem dX12_plain_85 : decode cX12_plain 85 = .ok (.if_icmp .ne 21, 3) := by decide +kernel
theorem dX12_plain_88 : decode cX12_plain 88 = .ok (.aload_n 0, 1) := by decide +kernel
theorem dX12_plain_89 : decode cX12_plain 89 = .ok (.aload_n 0, 1) := by decide +kernel
theorem dX12_plain_90 : decode cX12_plain 90 = .ok (.getfield 114, 3) := by decide +kernel
theorem dX12_plain_93 : decode cX12_plain 93 = .ok (.bipush 20, 2) := by decide +kernel
theorem dX12_plain_95 : decode cX12_plain 95 = .ok (.iload_n 2, 1) := by decide +kernel
theorem dX12_plain_96 : decode cX12_plain 96 = .ok (.imul, 1) := by decide +kernel
theorem dX12_plain_97 : decode cX12_plain 97 = .ok (.iload_n 3, 1) := by decide +kernel
theorem dX12_plain_98 : decode cX12_plain 98 = .ok (.iadd, 1) := by decide +kernel
theorem dX12_plain_99 : decode cX12_plain 99 = .ok (.iaload, 1) := by decide +kernel
theorem dX12_plain_100 : decode cX12_plain 100 = .ok (.invokevirtual 303, 3) := by decide +kernel
theorem dX12_plain_103 : decode cX12_plain 103 = .ok (.goto 127, 3) := by decide +kernel
theorem dX12_plain_106 : decode cX12_plain 106 = .ok (.iload_n 1, 1) := by decide +kernel
theorem dX12_plain_107 : decode cX12_plain 107 = .ok (.bipush 54, 2) := by decide +kernel
theorem dX12_plain_109 : decode cX12_plain 109 = .ok (.if_icmp .ne 21, 3) := by decide +kernel
theorem dX12_plain_112 : decode cX12_plain 112 = .ok (.aload_n 0, 1) := by decide +kernel
theorem dX12_plain_113 : decode cX12_plain 113 = .ok (.getfield 114, 3) := by decide +kernel
theorem dX12_plain_116 : decode cX12_plain 116 = .ok (.bipush 20, 2) := by decide +kernel
theorem dX12_plain_118 : decode cX12_plain 118 = .ok (.iload_n 2, 1) := by decide +kernel
theorem dX12_plain_119 : decode cX12_plain 119 = .ok (.imul, 1) := by decide +kernel
theorem dX12_plain_120 : decode cX12_plain 120 = .ok (.iload_n 3, 1) := by decide +kernel
theorem dX12_plain_121 : decode cX12_plain 121 = .ok (.iadd, 1) := by decide +kernel
theorem dX12_plain_122 : decode cX12_plain 122 = .ok (.aload_n 0, 1) := by decide +kernel
theorem dX12_plain_123 : decode cX12_plain 123 = .ok (.invokevirtual 300, 3) := by decide +kernel
theorem dX12_plain_126 : decode cX12_plain 126 = .ok (.iastore, 1) := by decide +kernel
theorem dX12_plain_127 : decode cX12_plain 127 = .ok (.goto 103, 3) := by decide +kernel
theorem dX12_plain_130 : decode cX12_plain 130 = .ok (.iload_n 1, 1) := by decide +kernel
theorem dX12_plain_131 : decode cX12_plain 131 = .ok (.bipush 87, 2) := by decide +kernel
theorem dX12_plain_133 : decode cX12_plain 133 = .ok (.if_icmp .ne 11, 3) := by decide +kernel
theorem dX12_plain_136 : decode cX12_plain 136 = .ok (.aload_n 0, 1) := by decide +kernel
theorem dX12_plain_137 : decode cX12_plain 137 = .ok (.invokevirtual 300, 3) := by decide +kernel
theorem dX12_plain_140 : decode cX12_plain 140 = .ok (.pop, 1) := by decide +kernel
theorem dX12_plain_141 : decode cX12_plain 141 = .ok (.goto 89, 3) := by decide +kernel
theorem dX12_plain_144 : decode cX12_plain 144 = .ok (.iload_n 1, 1) := by decide +kernel
theorem dX12_plain_145 : decode cX12_plain 145 = .ok (.bipush 89, 2) := by decide +kernel
theorem dX12_plain_147 : decode cX12_plain 147 = .ok (.if_icmp .ne 14, 3) := by decide +kernel
theorem dX12_plain_150 : decode cX12_plain 150 = .ok (.aload_n 0, 1) := by decide +kernel
theorem dX12_plain_151 : decode cX12_plain 151 = .ok (.aload_n 0, 1) := by decide +kernel
theorem dX12_plain_152 : decode cX12_plain 152 = .ok (.invokevirtual 282, 3) := by decide +kernel
theorem dX12_plain_155 : decode cX12_plain 155 = .ok (.invokevirtual 303, 3) := by decide +kernel
theorem dX12_plain_158 : decode cX12_plain 158 = .ok (.goto 72, 3) := by decide +kernel
theorem dX12_plain_161 : decode cX12_plain 161 = .ok (.iload_n 1, 1) := by decide +kernel
theorem dX12_plain_162 : decode cX12_plain 162 = .ok (.bipush 116, 2) := by decide +kernel
theorem dX12_plain_164 : decode cX12_plain 164 = .ok (.if_icmp .ne 15, 3) := by decide +kernel
theorem dX12_plain_167 : decode cX12_plain 167 = .ok (.aload_n 0, 1) := by decide +kernel
theorem dX12_plain_168 : decode cX12_plain 168 = .ok (.aload_n 0, 1) := by decide +kernel
theorem dX12_plain_169 : decode cX12_plain 169 = .ok (.invokevirtual 300, 3) := by decide +kernel
theorem dX12_plain_172 : decode cX12_plain 172 = .ok (.ineg, 1) := by decide +kernel
theorem dX12_plain_173 : decode cX12_plain 173 = .ok (.invokevirtual 303, 3) := by decide +kernel
theorem dX12_plain_176 : decode cX12_plain 176 = .ok (.goto 54, 3) := by decide +kernel
theorem dX12_plain_179 : decode cX12_plain 179 = .ok (.iload_n 1, 1) := by decide +kernel
theorem dX12_plain_180 : decode cX12_plain 180 = .ok (.ifCond .eq 50, 3) := by decide +kernel
theorem dX12_plain_183 : decode cX12_plain 183 = .ok (.aload_n 0, 1) := by decide +kernel
theorem dX12_plain_184 : decode cX12_plain 184 = .ok (.invokevirtual 300, 3) := by decide +kernel
theorem dX12_plain_187 : decode cX12_plain 187 = .ok (.istore 5, 2) := by decide +kernel
theorem dX12_plain_189 : decode cX12_plain 189 = .ok (.aload_n 0, 1) := by decide +kernel
theorem dX12_plain_190 : decode cX12_plain 190 = .ok (.invokevirtual 300, 3) := by decide +kernel
theorem dX12_plain_193 : decode cX12_plain 193 = .ok (.istore 6, 2) := by decide +kernel
theorem dX12_plain_195 : decode cX12_plain 195 = .ok (.iload_n 1, 1) := by decide +kernel
theorem dX12_plain_196 : decode cX12_plain 196 = .ok (.bipush 108, 2) := by decide +kernel
theorem dX12_plain_198 : decode cX12_plain 198 = .ok (.if_icmp .eq 9, 3) := by decide +kernel
theorem dX12_plain_201 : decode cX12_plain 201 = .ok (.iload_n 1, 1) := by decide +kernel
theorem dX12_plain_202 : decode cX12_plain 202 = .ok (.bipush 112, 2) := by decide +kernel
theorem dX12_plain_204 : decode cX12_plain 204 = .ok (.if_icmp .ne 14, 3) := by decide +kernel
theorem dX12_plain_207 : decode cX12_plain 207 = .ok (.iload 5, 2) := by decide +kernel
theorem dX12_plain_209 : decode cX12_plain 209 = .ok (.ifCond .ne 9, 3) := by decide +kernel
theorem dX12_plain_212 : decode cX12_plain 212 = .ok (.aload_n 0, 1) := by decide +kernel
theorem dX12_plain_213 : decode cX12_plain 213 = .ok (.iconst 1, 1) := by decide +kernel
theorem dX12_plain_214 : decode cX12_plain 214 = .ok (.putfield 267, 3) := by decide +kernel
theorem dX12_plain_217 : decode cX12_plain 217 = .ok (.return_, 1) := by decide +kernel
theorem dX12_plain_218 : decode cX12_plain 218 = .ok (.aload_n 0, 1) := by decide +kernel
theorem dX12_plain_219 : decode cX12_plain 219 = .ok (.iload_n 1, 1) := by decide +kernel
theorem dX12_plain_220 : decode cX12_plain 220 = .ok (.iload 6, 2) := by decide +kernel
theorem dX12_plain_222 : decode cX12_plain 222 = .ok (.iload 5, 2) := by decide +kernel
theorem dX12_plain_224 : decode cX12_plain 224 = .ok (.invokestatic 306, 3) := by decide +kernel
theorem dX12_plain_227 : decode cX12_plain 227 = .ok (.invokevirtual 303, 3) := by decide +kernel
theorem dX12_plain_230 : decode cX12_plain 230 = .ok (.aload_n 0, 1) := by decide +kernel
theorem dX12_plain_231 : decode cX12_plain 231 = .ok (.getfield 105, 3) := by decide +kernel
theorem dX12_plain_234 : decode cX12_plain 234 = .ok (.iload_n 2, 1) := by decide +kernel
theorem dX12_plain_235 : decode cX12_plain 235 = .ok (.iload 4, 2) := by decide +kernel
theorem dX12_plain_237 : decode cX12_plain 237 = .ok (.iastore, 1) := by decide +kernel
theorem dX12_plain_238 : decode cX12_plain 238 = .ok (.return_, 1) := by decide +kernel
abbrev wcX12_plain : List Cond := .code yX12_plain cX12_plain 7 none :: wsL_law
def jX12_plain_230 (v0 : Nat) (v2 : Int32) (v4 : Int32) (g : hs_S) : Option (hs_S) :=
  if hs_kd g v0 = 10 then
  if ¬ (hs_R g v0 42) = 0 then
  if hs_kd g ((hs_R g v0 42) - 1) = 100 then
  if hs_in v2 (hs_ln g ((hs_R g v0 42) - 1)) = true then
  some (hs_wI g ((hs_R g v0 42) - 1) v2.toNatClampNeg v4)
  else none else none else none else none
def jX12_plain_218 (v0 : Nat) (v1 : Int32) (v2 : Int32) (v4 : Int32) (v5 : Int32) (v6 : Int32) (g : hs_S) : Option (hs_S) :=
  hs_bd (fX12_reckoned v1 v6 v5 g) fun r25 g24 =>
  if hs_kd g24 v0 = 10 then
  hs_bv (fX12_push v0 r25 g24) fun g28 =>
  jX12_plain_230 v0 v2 v4 g28
  else none
def jX12_plain_207 (v0 : Nat) (v1 : Int32) (v2 : Int32) (v4 : Int32) (v5 : Int32) (v6 : Int32) (g : hs_S) : Option (hs_S) :=
  if v5 = 0 then (
    if hs_kd g v0 = 10 then
    some (hs_wI g v0 47 (1 : Int32))
    else none
  ) else (
    jX12_plain_218 v0 v1 v2 v4 v5 v6 g
  )
def jX12_plain_24 (v0 : Nat) (v1 : Int32) (v2 : Int32) (s0 : Int32) (g : hs_S) : Option (hs_S) :=
  if hs_kd g v0 = 10 then
  if ¬ (hs_R g v0 42) = 0 then
  if hs_kd g ((hs_R g v0 42) - 1) = 100 then
  if hs_in v2 (hs_ln g ((hs_R g v0 42) - 1)) = true then
  hs_bd (fX12_size v1 g) fun r10 g9 =>
  if v1 = (16 : Int32) then (
    hs_bd (fX12_signed s0 g9) fun r78 g77 =>
    if hs_kd g77 v0 = 10 then
    hs_bv (fX12_push v0 r78 g77) fun g81 =>
    jX12_plain_230 v0 v2 ((hs_I g ((hs_R g v0 42) - 1) v2.toNatClampNeg) + r10) g81
    else none
  ) else (
    if v1 = (17 : Int32) then (
      if hs_kd g9 v0 = 10 then
      hs_bd (fX12_codeAt v0 (2 : Int32) g9) fun r68 g67 =>
      hs_bd (fX12_signedTwo (((256 : Int32) * s0) + r68) g67) fun r71 g70 =>
      if hs_kd g70 v0 = 10 then
      hs_bv (fX12_push v0 r71 g70) fun g74 =>
      jX12_plain_230 v0 v2 ((hs_I g ((hs_R g v0 42) - 1) v2.toNatClampNeg) + r10) g74
      else none else none
    ) else (
      if v1 = (21 : Int32) then (
        if hs_kd g9 v0 = 10 then
        if ¬ (hs_R g9 v0 45) = 0 then
        if hs_kd g9 ((hs_R g9 v0 45) - 1) = 100 then
        if hs_in (((20 : Int32) * v2) + s0) (hs_ln g9 ((hs_R g9 v0 45) - 1)) = true then
        hs_bv (fX12_push v0 (hs_I g9 ((hs_R g9 v0 45) - 1) (((20 : Int32) * v2) + s0).toNatClampNeg) g9) fun g63 =>
        jX12_plain_230 v0 v2 ((hs_I g ((hs_R g v0 42) - 1) v2.toNatClampNeg) + r10) g63
        else none else none else none else none
      ) else (
        if v1 = (54 : Int32) then (
          if hs_kd g9 v0 = 10 then
          if ¬ (hs_R g9 v0 45) = 0 then
          hs_bd (fX12_pop v0 g9) fun r55 g54 =>
          if hs_kd g54 ((hs_R g9 v0 45) - 1) = 100 then
          if hs_in (((20 : Int32) * v2) + s0) (hs_ln g54 ((hs_R g9 v0 45) - 1)) = true then
          jX12_plain_230 v0 v2 ((hs_I g ((hs_R g v0 42) - 1) v2.toNatClampNeg) + r10) (hs_wI g54 ((hs_R g9 v0 45) - 1) (((20 : Int32) * v2) + s0).toNatClampNeg r55)
          else none else none else none else none
        ) else (
          if v1 = (87 : Int32) then (
            if hs_kd g9 v0 = 10 then
            hs_bd (fX12_pop v0 g9) fun r50 g49 =>
            jX12_plain_230 v0 v2 ((hs_I g ((hs_R g v0 42) - 1) v2.toNatClampNeg) + r10) g49
            else none
          ) else (
            if v1 = (89 : Int32) then (
              if hs_kd g9 v0 = 10 then
              hs_bd (fX12_top v0 g9) fun r42 g41 =>
              if hs_kd g41 v0 = 10 then
              hs_bv (fX12_push v0 r42 g41) fun g45 =>
              jX12_plain_230 v0 v2 ((hs_I g ((hs_R g v0 42) - 1) v2.toNatClampNeg) + r10) g45
              else none else none
            ) else (
              if v1 = (116 : Int32) then (
                if hs_kd g9 v0 = 10 then
                hs_bd (fX12_pop v0 g9) fun r34 g33 =>
                if hs_kd g33 v0 = 10 then
                hs_bv (fX12_push v0 (-r34) g33) fun g37 =>
                jX12_plain_230 v0 v2 ((hs_I g ((hs_R g v0 42) - 1) v2.toNatClampNeg) + r10) g37
                else none else none
              ) else (
                if v1 = 0 then (
                  jX12_plain_230 v0 v2 ((hs_I g ((hs_R g v0 42) - 1) v2.toNatClampNeg) + r10) g9
                ) else (
                  if hs_kd g9 v0 = 10 then
                  hs_bd (fX12_pop v0 g9) fun r18 g17 =>
                  if hs_kd g17 v0 = 10 then
                  hs_bd (fX12_pop v0 g17) fun r22 g21 =>
                  if v1 = (108 : Int32) then (
                    jX12_plain_207 v0 v1 v2 ((hs_I g ((hs_R g v0 42) - 1) v2.toNatClampNeg) + r10) r18 r22 g21
                  ) else (
                    if v1 = (112 : Int32) then (
                      jX12_plain_207 v0 v1 v2 ((hs_I g ((hs_R g v0 42) - 1) v2.toNatClampNeg) + r10) r18 r22 g21
                    ) else (
                      jX12_plain_218 v0 v1 v2 ((hs_I g ((hs_R g v0 42) - 1) v2.toNatClampNeg) + r10) r18 r22 g21
                    )
                  )
                  else none else none
                )
              )
            )
          )
        )
      )
    )
  )
  else none else none else none else none
def fX12_plain (v0 : Nat) (v1 : Int32) (g : hs_S) : Option (hs_S) :=
  if hs_kd g v0 = 10 then
  hs_bd (fX12_size v1 g) fun r3 g2 =>
  if r3 ≤ (1 : Int32) then (
    jX12_plain_24 v0 v1 ((hs_I g v0 40) - (1 : Int32)) (0 : Int32) g2
  ) else (
    if hs_kd g2 v0 = 10 then
    hs_bd (fX12_codeAt v0 (1 : Int32) g2) fun r86 g85 =>
    jX12_plain_24 v0 v1 ((hs_I g v0 40) - (1 : Int32)) r86 g85
    else none
  )
  else none
abbrev rmX12_plain : Room := { frames := 1, cells := 0, slots := 0, locals := 22 }
set_option maxHeartbeats 4000000 in
set_option maxRecDepth 100000 in
theorem wX12_plain_j230 {p : Program} {l : Launch} {e : Env} {s : State} {m : MethodId} {args : Array Value} {below : List Frame} {meth : Method} {c : Code} {B : Nat} {D : va_G} {E : Nat → ClassId} (hX : hs_cx cX12_plain none 7 RX12 wcX12_plain p s m args meth c D E) {o : hs_S}  {v0 : Nat} {v2 : Int32} {v4 : Int32}   {g : hs_S} {H : Heap} {locs : List Loc} {ls : Array Slot} (hf : jX12_plain_230 v0 v2 v4 g = some o) (hP : hs_P B D E g H) (hS : hs_Sx B s.heap H locs) (hl : lv_has ls 7 [(0, .ref (B + v0)), (2, .int v2), (4, .int v4)]) : W p l e rmX12_plain s m args below meth c H locs 0 0 (MQ below (hs_Qv B D E o) args s 0 0 (hs_F B)) (F0 m 230 ls []) := by
  obtain ⟨hx, hb, hr, hml, hown, hts, hlocks, hK⟩ := id hX
  unfold jX12_plain_230 at hf
  refine lv_aload_n hx hb dX12_plain_230 rfl (lv_at hl 0 rfl) ?_
  obtain ⟨h12, hf⟩ := hs_ck hf
  obtain ⟨h13, hf⟩ := hs_ck hf
  refine hs_getr (C := RX12) (T := TX12) (N := 48) hx hb hts (fun w h => List.mem_cons_of_mem _ (inlX12 w h)) hown hK.1 hP h12 (by decide) rfl 42 (by decide) (hts _ (List.mem_cons_of_mem _ wq153)) (fun _ h => h) rfl h13 dX12_plain_231 ?_
  refine lv_iload_n hx hb dX12_plain_234 rfl (lv_at hl 1 rfl) ?_
  refine lv_iload hx hb dX12_plain_235 (lv_at hl 2 rfl) ?_
  obtain ⟨h14, hf⟩ := hs_ck hf
  obtain ⟨h15, hf⟩ := hs_ck hf
  refine hs_iast hx hb hK.1 hP hS h14 h15 dX12_plain_237 (fun H locs hP hS => ?_)
  exact hs_vret hx hb hr hlocks hK hP hS hf dX12_plain_238

set_option maxHeartbeats 4000000 in
set_option maxRecDepth 100000 in
theorem wX12_plain_j218 {p : Program} {l : Launch} {e : Env} {s : State} {m : MethodId} {args : Array Value} {below : List Frame} {meth : Method} {c : Code} {B : Nat} {D : va_G} {E : Nat → ClassId} (hX : hs_cx cX12_plain none 7 RX12 wcX12_plain p s m args meth c D E) {o : hs_S}  {v0 : Nat} {v1 : Int32} {v2 : Int32} {v4 : Int32} {v5 : Int32} {v6 : Int32}   {g : hs_S} {H : Heap} {locs : List Loc} {ls : Array Slot} (hf : jX12_plain_218 v0 v1 v2 v4 v5 v6 g = some o) (hP : hs_P B D E g H) (hS : hs_Sx B s.heap H locs) (hl : lv_has ls 7 [(0, .ref (B + v0)), (1, .int v1), (2, .int v2), (4, .int v4), (5, .int v5), (6, .int v6)]) : W p l e rmX12_plain s m args below meth c H locs 0 0 (MQ below (hs_Qv B D E o) args s 0 0 (hs_F B)) (F0 m 218 ls []) := by
  obtain ⟨hx, hb, hr, hml, hown, hts, hlocks, hK⟩ := id hX
  unfold jX12_plain_218 at hf
  refine lv_aload_n hx hb dX12_plain_218 rfl (lv_at hl 0 rfl) ?_
  refine lv_iload_n hx hb dX12_plain_219 rfl (lv_at hl 1 rfl) ?_
  refine lv_iload hx hb dX12_plain_220 (lv_at hl 5 rfl) ?_
  refine lv_iload hx hb dX12_plain_222 (lv_at hl 4 rfl) ?_
  obtain ⟨r25, g24, h26, hf⟩ := hs_bd_some hf
  refine hs_calli (va_runS (As := [.int v1, .int v6, .int v5]) (rest := [.ref (B + v0)]) ⟨hx, hb, hml, hown, hts⟩ (ctX12_reckoned l B D E v1 v6 v5 g _ h26) (va_cwS 3 hts (hs_gS (fun _ h => List.mem_cons_of_mem _ h) wq910 wq911 wq5 wq912) rfl rfl rfl (by decide +kernel) ⟨Nat.le_of_ble_eq_true rfl, Nat.le_of_ble_eq_true rfl⟩) (hs_pre hP hK) rfl rfl hl.1 rfl (lv_room (Nat.le_of_ble_eq_true rfl)) dX12_plain_224 ⟨(Nat.le_of_ble_eq_true rfl), (Nat.le_of_ble_eq_true rfl)⟩) hS (fun H locs hP hS => ?_)
  obtain ⟨h27, hf⟩ := hs_ck hf
  obtain ⟨g28, h30, hf⟩ := hs_bv_some hf
  refine hs_callv (va_runV (As := [.int r25]) (rest := []) ⟨hx, hb, hml, hown, hts⟩ (ctX12_push l B D E v0 r25 g24 _ h30) (cwV 1 hts (hs_gV (fun _ h => List.mem_cons_of_mem _ h) wq890 wq891 wq892 wq5 wq893) rfl rfl rfl (by decide +kernel) ⟨Nat.le_of_ble_eq_true rfl, Nat.le_of_ble_eq_true rfl⟩) (hs_preV (r := (RX12, TX12, 48)) hP hK h27 (by decide) rfl) rfl rfl hl.1 rfl (lv_room (Nat.le_of_ble_eq_true rfl)) dX12_plain_227 ⟨(Nat.le_of_ble_eq_true rfl), (Nat.le_of_ble_eq_true rfl)⟩) hS (fun H locs hP hS => ?_)
  exact wX12_plain_j230 hX hf hP hS (lv_sub hl [0, 2, 3] rfl)

set_option maxHeartbeats 4000000 in
set_option maxRecDepth 100000 in
theorem wX12_plain_j207 {p : Program} {l : Launch} {e : Env} {s : State} {m : MethodId} {args : Array Value} {below : List Frame} {meth : Method} {c : Code} {B : Nat} {D : va_G} {E : Nat → ClassId} (hX : hs_cx cX12_plain none 7 RX12 wcX12_plain p s m args meth c D E) {o : hs_S}  {v0 : Nat} {v1 : Int32} {v2 : Int32} {v4 : Int32} {v5 : Int32} {v6 : Int32}   {g : hs_S} {H : Heap} {locs : List Loc} {ls : Array Slot} (hf : jX12_plain_207 v0 v1 v2 v4 v5 v6 g = some o) (hP : hs_P B D E g H) (hS : hs_Sx B s.heap H locs) (hl : lv_has ls 7 [(0, .ref (B + v0)), (1, .int v1), (2, .int v2), (4, .int v4), (5, .int v5), (6, .int v6)]) : W p l e rmX12_plain s m args below meth c H locs 0 0 (MQ below (hs_Qv B D E o) args s 0 0 (hs_F B)) (F0 m 207 ls []) := by
  obtain ⟨hx, hb, hr, hml, hown, hts, hlocks, hK⟩ := id hX
  unfold jX12_plain_207 at hf
  refine lv_iload hx hb dX12_plain_207 (lv_at hl 4 rfl) ?_
  refine lv_if_ne (tgt := 218) hx hb dX12_plain_209 (by decide) (fun hc => ?_) (fun hc => ?_)
  · replace hf := hs_f hf hc
    exact wX12_plain_j218 hX hf hP hS (lv_sub hl [0, 1, 2, 3, 4, 5] rfl)
  · replace hf := hs_t hf hc
    refine lv_aload_n hx hb dX12_plain_212 rfl (lv_at hl 0 rfl) ?_
    refine lv_iconst (v := 1) hx hb dX12_plain_213 (by decide) ?_
    obtain ⟨h31, hf⟩ := hs_ck hf
    refine hs_puti (C := RX12) (T := TX12) (N := 48) hx hb hts (fun w h => List.mem_cons_of_mem _ (inlX12 w h)) tyX12 tyX12_ok nmX12 hown hK.1 hP hS h31 (by decide) rfl 47 (by decide) (hts _ (List.mem_cons_of_mem _ wq861)) (fun _ h => h) (Or.inl rfl) rfl rfl rfl dX12_plain_214 (fun H locs hP hS => ?_)
    exact hs_vret hx hb hr hlocks hK hP hS hf dX12_plain_217

set_option maxHeartbeats 4000000 in
set_option maxRecDepth 100000 in
theorem wX12_plain_j24 {p : Program} {l : Launch} {e : Env} {s : State} {m : MethodId} {args : Array Value} {below : List Frame} {meth : Method} {c : Code} {B : Nat} {D : va_G} {E : Nat → ClassId} (hX : hs_cx cX12_plain none 7 RX12 wcX12_plain p s m args meth c D E) {o : hs_S}  {v0 : Nat} {v1 : Int32} {v2 : Int32} {s0 : Int32}   {g : hs_S} {H : Heap} {locs : List Loc} {ls : Array Slot} (hf : jX12_plain_24 v0 v1 v2 s0 g = some o) (hP : hs_P B D E g H) (hS : hs_Sx B s.heap H locs) (hl : lv_has ls 7 [(0, .ref (B + v0)), (1, .int v1), (2, .int v2)]) : W p l e rmX12_plain s m args below meth c H locs 0 0 (MQ below (hs_Qv B D E o) args s 0 0 (hs_F B)) (F0 m 24 ls [.int s0]) := by
  obtain ⟨hx, hb, hr, hml, hown, hts, hlocks, hK⟩ := id hX
  unfold jX12_plain_24 at hf
  refine lv_istore_n (lv' := [(3, .int s0), (0, .ref (B + v0)), (1, .int v1), (2, .int v2)]) hx hb dX12_plain_24 rfl hl (by decide) rfl (fun ls hl => ?_)
  refine lv_aload_n hx hb dX12_plain_25 rfl (lv_at hl 1 rfl) ?_
  obtain ⟨h5, hf⟩ := hs_ck hf
  obtain ⟨h6, hf⟩ := hs_ck hf
  refine hs_getr (C := RX12) (T := TX12) (N := 48) hx hb hts (fun w h => List.mem_cons_of_mem _ (inlX12 w h)) hown hK.1 hP h5 (by decide) rfl 42 (by decide) (hts _ (List.mem_cons_of_mem _ wq153)) (fun _ h => h) rfl h6 dX12_plain_26 ?_
  refine lv_iload_n hx hb dX12_plain_29 rfl (lv_at hl 3 rfl) ?_
  obtain ⟨h7, hf⟩ := hs_ck hf
  obtain ⟨h8, hf⟩ := hs_ck hf
  refine hs_iald hx hb hK.1 hP h7 h8 dX12_plain_30 ?_
  refine lv_iload_n hx hb dX12_plain_31 rfl (lv_at hl 2 rfl) ?_
  obtain ⟨r10, g9, h11, hf⟩ := hs_bd_some hf
  refine hs_calli (va_runS (As := [.int v1]) (rest := [.int (hs_I g ((hs_R g v0 42) - 1) v2.toNatClampNeg)]) ⟨hx, hb, hml, hown, hts⟩ (ctX12_size l B D E v1 g _ h11) (va_cwS 1 hts (hs_gS (fun _ h => List.mem_cons_of_mem _ h) wq423 wq424 wq5 wq425) rfl rfl rfl (by decide +kernel) ⟨Nat.le_of_ble_eq_true rfl, Nat.le_of_ble_eq_true rfl⟩) (hs_pre hP hK) rfl rfl hl.1 rfl (lv_room (Nat.le_of_ble_eq_true rfl)) dX12_plain_32 ⟨(Nat.le_of_ble_eq_true rfl), (Nat.le_of_ble_eq_true rfl)⟩) hS (fun H locs hP hS => ?_)
  refine lv_iadd hx hb dX12_plain_35 ?_
  refine lv_istore (lv' := [(4, .int ((hs_I g ((hs_R g v0 42) - 1) v2.toNatClampNeg) + r10)), (3, .int s0), (0, .ref (B + v0)), (1, .int v1), (2, .int v2)]) hx hb dX12_plain_36 hl (by decide) rfl (fun ls hl => ?_)
  refine lv_iload_n hx hb dX12_plain_38 rfl (lv_at hl 3 rfl) ?_
  refine lv_bipush (v := 16) hx hb dX12_plain_39 (by decide) ?_
  refine lv_icmp_ne (tgt := 55) hx hb dX12_plain_41 (by decide) (fun hc => ?_) (fun hc => ?_)
  · replace hf := hs_f hf hc
    refine lv_iload_n hx hb dX12_plain_55 rfl (lv_at hl 3 rfl) ?_
    refine lv_bipush (v := 17) hx hb dX12_plain_56 (by decide) ?_
    refine lv_icmp_ne (tgt := 82) hx hb dX12_plain_58 (by decide) (fun hc => ?_) (fun hc => ?_)
    · replace hf := hs_f hf hc
      refine lv_iload_n hx hb dX12_plain_82 rfl (lv_at hl 3 rfl) ?_
      refine lv_bipush (v := 21) hx hb dX12_plain_83 (by decide) ?_
      refine lv_icmp_ne (tgt := 106) hx hb dX12_plain_85 (by decide) (fun hc => ?_) (fun hc => ?_)
      · replace hf := hs_f hf hc
        refine lv_iload_n hx hb dX12_plain_106 rfl (lv_at hl 3 rfl) ?_
        refine lv_bipush (v := 54) hx hb dX12_plain_107 (by decide) ?_
        refine lv_icmp_ne (tgt := 130) hx hb dX12_plain_109 (by decide) (fun hc => ?_) (fun hc => ?_)
        · replace hf := hs_f hf hc
          refine lv_iload_n hx hb dX12_plain_130 rfl (lv_at hl 3 rfl) ?_
          refine lv_bipush (v := 87) hx hb dX12_plain_131 (by decide) ?_
          refine lv_icmp_ne (tgt := 144) hx hb dX12_plain_133 (by decide) (fun hc => ?_) (fun hc => ?_)
          · replace hf := hs_f hf hc
            refine lv_iload_n hx hb dX12_plain_144 rfl (lv_at hl 3 rfl) ?_
            refine lv_bipush (v := 89) hx hb dX12_plain_145 (by decide) ?_
            refine lv_icmp_ne (tgt := 161) hx hb dX12_plain_147 (by decide) (fun hc => ?_) (fun hc => ?_)
            · replace hf := hs_f hf hc
              refine lv_iload_n hx hb dX12_plain_161 rfl (lv_at hl 3 rfl) ?_
              refine lv_bipush (v := 116) hx hb dX12_plain_162 (by decide) ?_
              refine lv_icmp_ne (tgt := 179) hx hb dX12_plain_164 (by decide) (fun hc => ?_) (fun hc => ?_)
              · replace hf := hs_f hf hc
                refine lv_iload_n hx hb dX12_plain_179 rfl (lv_at hl 3 rfl) ?_
                refine lv_if_eq (tgt := 230) hx hb dX12_plain_180 (by decide) (fun hc => ?_) (fun hc => ?_)
                · replace hf := hs_t hf hc
                  exact wX12_plain_j230 hX hf hP hS (lv_sub hl [2, 4, 0] rfl)
                · replace hf := hs_f hf hc
                  refine lv_aload_n hx hb dX12_plain_183 rfl (lv_at hl 2 rfl) ?_
                  obtain ⟨h16, hf⟩ := hs_ck hf
                  obtain ⟨r18, g17, h19, hf⟩ := hs_bd_some hf
                  refine hs_calli (va_runV (As := []) (rest := []) ⟨hx, hb, hml, hown, hts⟩ (ctX12_pop l B D E v0 g9 _ h19) (cwV 0 hts (hs_gV (fun _ h => List.mem_cons_of_mem _ h) wq886 wq887 wq888 wq5 wq889) rfl rfl rfl (by decide +kernel) ⟨Nat.le_of_ble_eq_true rfl, Nat.le_of_ble_eq_true rfl⟩) (hs_preV (r := (RX12, TX12, 48)) hP hK h16 (by decide) rfl) rfl rfl hl.1 rfl (lv_room (Nat.le_of_ble_eq_true rfl)) dX12_plain_184 ⟨(Nat.le_of_ble_eq_true rfl), (Nat.le_of_ble_eq_true rfl)⟩) hS (fun H locs hP hS => ?_)
                  refine lv_istore (lv' := [(5, .int r18), (4, .int ((hs_I g ((hs_R g v0 42) - 1) v2.toNatClampNeg) + r10)), (3, .int s0), (0, .ref (B + v0)), (1, .int v1), (2, .int v2)]) hx hb dX12_plain_187 hl (by decide) rfl (fun ls hl => ?_)
                  refine lv_aload_n hx hb dX12_plain_189 rfl (lv_at hl 3 rfl) ?_
                  obtain ⟨h20, hf⟩ := hs_ck hf
                  obtain ⟨r22, g21, h23, hf⟩ := hs_bd_some hf
                  refine hs_calli (va_runV (As := []) (rest := []) ⟨hx, hb, hml, hown, hts⟩ (ctX12_pop l B D E v0 g17 _ h23) (cwV 0 hts (hs_gV (fun _ h => List.mem_cons_of_mem _ h) wq886 wq887 wq888 wq5 wq889) rfl rfl rfl (by decide +kernel) ⟨Nat.le_of_ble_eq_true rfl, Nat.le_of_ble_eq_true rfl⟩) (hs_preV (r := (RX12, TX12, 48)) hP hK h20 (by decide) rfl) rfl rfl hl.1 rfl (lv_room (Nat.le_of_ble_eq_true rfl)) dX12_plain_190 ⟨(Nat.le_of_ble_eq_true rfl), (Nat.le_of_ble_eq_true rfl)⟩) hS (fun H locs hP hS => ?_)
                  refine lv_istore (lv' := [(6, .int r22), (5, .int r18), (4, .int ((hs_I g ((hs_R g v0 42) - 1) v2.toNatClampNeg) + r10)), (3, .int s0), (0, .ref (B + v0)), (1, .int v1), (2, .int v2)]) hx hb dX12_plain_193 hl (by decide) rfl (fun ls hl => ?_)
                  refine lv_iload_n hx hb dX12_plain_195 rfl (lv_at hl 5 rfl) ?_
                  refine lv_bipush (v := 108) hx hb dX12_plain_196 (by decide) ?_
                  refine lv_icmp_eq (tgt := 207) hx hb dX12_plain_198 (by decide) (fun hc => ?_) (fun hc => ?_)
                  · replace hf := hs_t hf hc
                    exact wX12_plain_j207 hX hf hP hS (lv_sub hl [4, 5, 6, 2, 1, 0] rfl)
                  · replace hf := hs_f hf hc
                    refine lv_iload_n hx hb dX12_plain_201 rfl (lv_at hl 5 rfl) ?_
                    refine lv_bipush (v := 112) hx hb dX12_plain_202 (by decide) ?_
                    refine lv_icmp_ne (tgt := 218) hx hb dX12_plain_204 (by decide) (fun hc => ?_) (fun hc => ?_)
                    · replace hf := hs_f hf hc
                      exact wX12_plain_j218 hX hf hP hS (lv_sub hl [4, 5, 6, 2, 1, 0] rfl)
                    · replace hf := hs_t hf hc
                      exact wX12_plain_j207 hX hf hP hS (lv_sub hl [4, 5, 6, 2, 1, 0] rfl)
              · replace hf := hs_t hf hc
                refine lv_aload_n hx hb dX12_plain_167 rfl (lv_at hl 2 rfl) ?_
                refine lv_aload_n hx hb dX12_plain_168 rfl (lv_at hl 2 rfl) ?_
                obtain ⟨h32, hf⟩ := hs_ck hf
                obtain ⟨r34, g33, h35, hf⟩ := hs_bd_some hf
                refine hs_calli (va_runV (As := []) (rest := [.ref (B + v0)]) ⟨hx, hb, hml, hown, hts⟩ (ctX12_pop l B D E v0 g9 _ h35) (cwV 0 hts (hs_gV (fun _ h => List.mem_cons_of_mem _ h) wq886 wq887 wq888 wq5 wq889) rfl rfl rfl (by decide +kernel) ⟨Nat.le_of_ble_eq_true rfl, Nat.le_of_ble_eq_true rfl⟩) (hs_preV (r := (RX12, TX12, 48)) hP hK h32 (by decide) rfl) rfl rfl hl.1 rfl (lv_room (Nat.le_of_ble_eq_true rfl)) dX12_plain_169 ⟨(Nat.le_of_ble_eq_true rfl), (Nat.le_of_ble_eq_true rfl)⟩) hS (fun H locs hP hS => ?_)
                refine lv_ineg hx hb dX12_plain_172 ?_
                obtain ⟨h36, hf⟩ := hs_ck hf
                obtain ⟨g37, h39, hf⟩ := hs_bv_some hf
                refine hs_callv (va_runV (As := [.int (-r34)]) (rest := []) ⟨hx, hb, hml, hown, hts⟩ (ctX12_push l B D E v0 (-r34) g33 _ h39) (cwV 1 hts (hs_gV (fun _ h => List.mem_cons_of_mem _ h) wq890 wq891 wq892 wq5 wq893) rfl rfl rfl (by decide +kernel) ⟨Nat.le_of_ble_eq_true rfl, Nat.le_of_ble_eq_true rfl⟩) (hs_preV (r := (RX12, TX12, 48)) hP hK h36 (by decide) rfl) rfl rfl hl.1 rfl (lv_room (Nat.le_of_ble_eq_true rfl)) dX12_plain_173 ⟨(Nat.le_of_ble_eq_true rfl), (Nat.le_of_ble_eq_true rfl)⟩) hS (fun H locs hP hS => ?_)
                refine lv_goto (tgt := 230) hx hb dX12_plain_176 (by decide) ?_
                exact wX12_plain_j230 hX hf hP hS (lv_sub hl [2, 4, 0] rfl)
            · replace hf := hs_t hf hc
              refine lv_aload_n hx hb dX12_plain_150 rfl (lv_at hl 2 rfl) ?_
              refine lv_aload_n hx hb dX12_plain_151 rfl (lv_at hl 2 rfl) ?_
              obtain ⟨h40, hf⟩ := hs_ck hf
              obtain ⟨r42, g41, h43, hf⟩ := hs_bd_some hf
              refine hs_calli (va_runV (As := []) (rest := [.ref (B + v0)]) ⟨hx, hb, hml, hown, hts⟩ (ctX12_top l B D E v0 g9 _ h43) (cwV 0 hts (hs_gV (fun _ h => List.mem_cons_of_mem _ h) wq878 wq879 wq880 wq5 wq881) rfl rfl rfl (by decide +kernel) ⟨Nat.le_of_ble_eq_true rfl, Nat.le_of_ble_eq_true rfl⟩) (hs_preV (r := (RX12, TX12, 48)) hP hK h40 (by decide) rfl) rfl rfl hl.1 rfl (lv_room (Nat.le_of_ble_eq_true rfl)) dX12_plain_152 ⟨(Nat.le_of_ble_eq_true rfl), (Nat.le_of_ble_eq_true rfl)⟩) hS (fun H locs hP hS => ?_)
              obtain ⟨h44, hf⟩ := hs_ck hf
              obtain ⟨g45, h47, hf⟩ := hs_bv_some hf
              refine hs_callv (va_runV (As := [.int r42]) (rest := []) ⟨hx, hb, hml, hown, hts⟩ (ctX12_push l B D E v0 r42 g41 _ h47) (cwV 1 hts (hs_gV (fun _ h => List.mem_cons_of_mem _ h) wq890 wq891 wq892 wq5 wq893) rfl rfl rfl (by decide +kernel) ⟨Nat.le_of_ble_eq_true rfl, Nat.le_of_ble_eq_true rfl⟩) (hs_preV (r := (RX12, TX12, 48)) hP hK h44 (by decide) rfl) rfl rfl hl.1 rfl (lv_room (Nat.le_of_ble_eq_true rfl)) dX12_plain_155 ⟨(Nat.le_of_ble_eq_true rfl), (Nat.le_of_ble_eq_true rfl)⟩) hS (fun H locs hP hS => ?_)
              refine lv_goto (tgt := 230) hx hb dX12_plain_158 (by decide) ?_
              exact wX12_plain_j230 hX hf hP hS (lv_sub hl [2, 4, 0] rfl)
          · replace hf := hs_t hf hc
            refine lv_aload_n hx hb dX12_plain_136 rfl (lv_at hl 2 rfl) ?_
            obtain ⟨h48, hf⟩ := hs_ck hf
            obtain ⟨r50, g49, h51, hf⟩ := hs_bd_some hf
            refine hs_calli (va_runV (As := []) (rest := []) ⟨hx, hb, hml, hown, hts⟩ (ctX12_pop l B D E v0 g9 _ h51) (cwV 0 hts (hs_gV (fun _ h => List.mem_cons_of_mem _ h) wq886 wq887 wq888 wq5 wq889) rfl rfl rfl (by decide +kernel) ⟨Nat.le_of_ble_eq_true rfl, Nat.le_of_ble_eq_true rfl⟩) (hs_preV (r := (RX12, TX12, 48)) hP hK h48 (by decide) rfl) rfl rfl hl.1 rfl (lv_room (Nat.le_of_ble_eq_true rfl)) dX12_plain_137 ⟨(Nat.le_of_ble_eq_true rfl), (Nat.le_of_ble_eq_true rfl)⟩) hS (fun H locs hP hS => ?_)
            refine lv_pop hx hb dX12_plain_140 rfl ?_
            refine lv_goto (tgt := 230) hx hb dX12_plain_141 (by decide) ?_
            exact wX12_plain_j230 hX hf hP hS (lv_sub hl [2, 4, 0] rfl)
        · replace hf := hs_t hf hc
          refine lv_aload_n hx hb dX12_plain_112 rfl (lv_at hl 2 rfl) ?_
          obtain ⟨h52, hf⟩ := hs_ck hf
          obtain ⟨h53, hf⟩ := hs_ck hf
          refine hs_getr (C := RX12) (T := TX12) (N := 48) hx hb hts (fun w h => List.mem_cons_of_mem _ (inlX12 w h)) hown hK.1 hP h52 (by decide) rfl 45 (by decide) (hts _ (List.mem_cons_of_mem _ wq156)) (fun _ h => h) rfl h53 dX12_plain_113 ?_
          refine lv_bipush (v := 20) hx hb dX12_plain_116 (by decide) ?_
          refine lv_iload_n hx hb dX12_plain_118 rfl (lv_at hl 4 rfl) ?_
          refine lv_imul hx hb dX12_plain_119 ?_
          refine lv_iload_n hx hb dX12_plain_120 rfl (lv_at hl 1 rfl) ?_
          refine lv_iadd hx hb dX12_plain_121 ?_
          refine lv_aload_n hx hb dX12_plain_122 rfl (lv_at hl 2 rfl) ?_
          obtain ⟨r55, g54, h56, hf⟩ := hs_bd_some hf
          refine hs_calli (va_runV (As := []) (rest := [.int (((20 : Int32) * v2) + s0), .ref (B + ((hs_R g9 v0 45) - 1))]) ⟨hx, hb, hml, hown, hts⟩ (ctX12_pop l B D E v0 g9 _ h56) (cwV 0 hts (hs_gV (fun _ h => List.mem_cons_of_mem _ h) wq886 wq887 wq888 wq5 wq889) rfl rfl rfl (by decide +kernel) ⟨Nat.le_of_ble_eq_true rfl, Nat.le_of_ble_eq_true rfl⟩) (hs_preV (r := (RX12, TX12, 48)) hP hK h52 (by decide) rfl) rfl rfl hl.1 rfl (lv_room (Nat.le_of_ble_eq_true rfl)) dX12_plain_123 ⟨(Nat.le_of_ble_eq_true rfl), (Nat.le_of_ble_eq_true rfl)⟩) hS (fun H locs hP hS => ?_)
          obtain ⟨h57, hf⟩ := hs_ck hf
          obtain ⟨h58, hf⟩ := hs_ck hf
          refine hs_iast hx hb hK.1 hP hS h57 h58 dX12_plain_126 (fun H locs hP hS => ?_)
          refine lv_goto (tgt := 230) hx hb dX12_plain_127 (by decide) ?_
          exact wX12_plain_j230 hX hf hP hS (lv_sub hl [2, 4, 0] rfl)
      · replace hf := hs_t hf hc
        refine lv_aload_n hx hb dX12_plain_88 rfl (lv_at hl 2 rfl) ?_
        refine lv_aload_n hx hb dX12_plain_89 rfl (lv_at hl 2 rfl) ?_
        obtain ⟨h59, hf⟩ := hs_ck hf
        obtain ⟨h60, hf⟩ := hs_ck hf
        refine hs_getr (C := RX12) (T := TX12) (N := 48) hx hb hts (fun w h => List.mem_cons_of_mem _ (inlX12 w h)) hown hK.1 hP h59 (by decide) rfl 45 (by decide) (hts _ (List.mem_cons_of_mem _ wq156)) (fun _ h => h) rfl h60 dX12_plain_90 ?_
        refine lv_bipush (v := 20) hx hb dX12_plain_93 (by decide) ?_
        refine lv_iload_n hx hb dX12_plain_95 rfl (lv_at hl 4 rfl) ?_
        refine lv_imul hx hb dX12_plain_96 ?_
        refine lv_iload_n hx hb dX12_plain_97 rfl (lv_at hl 1 rfl) ?_
        refine lv_iadd hx hb dX12_plain_98 ?_
        obtain ⟨h61, hf⟩ := hs_ck hf
        obtain ⟨h62, hf⟩ := hs_ck hf
        refine hs_iald hx hb hK.1 hP h61 h62 dX12_plain_99 ?_
        obtain ⟨g63, h65, hf⟩ := hs_bv_some hf
        refine hs_callv (va_runV (As := [.int (hs_I g9 ((hs_R g9 v0 45) - 1) (((20 : Int32) * v2) + s0).toNatClampNeg)]) (rest := []) ⟨hx, hb, hml, hown, hts⟩ (ctX12_push l B D E v0 (hs_I g9 ((hs_R g9 v0 45) - 1) (((20 : Int32) * v2) + s0).toNatClampNeg) g9 _ h65) (cwV 1 hts (hs_gV (fun _ h => List.mem_cons_of_mem _ h) wq890 wq891 wq892 wq5 wq893) rfl rfl rfl (by decide +kernel) ⟨Nat.le_of_ble_eq_true rfl, Nat.le_of_ble_eq_true rfl⟩) (hs_preV (r := (RX12, TX12, 48)) hP hK h59 (by decide) rfl) rfl rfl hl.1 rfl (lv_room (Nat.le_of_ble_eq_true rfl)) dX12_plain_100 ⟨(Nat.le_of_ble_eq_true rfl), (Nat.le_of_ble_eq_true rfl)⟩) hS (fun H locs hP hS => ?_)
        refine lv_goto (tgt := 230) hx hb dX12_plain_103 (by decide) ?_
        exact wX12_plain_j230 hX hf hP hS (lv_sub hl [2, 4, 0] rfl)
    · replace hf := hs_t hf hc
      refine lv_aload_n hx hb dX12_plain_61 rfl (lv_at hl 2 rfl) ?_
      refine lv_sipush (v := 256) hx hb dX12_plain_62 (by decide) ?_
      refine lv_iload_n hx hb dX12_plain_65 rfl (lv_at hl 1 rfl) ?_
      refine lv_imul hx hb dX12_plain_66 ?_
      refine lv_aload_n hx hb dX12_plain_67 rfl (lv_at hl 2 rfl) ?_
      refine lv_iconst (v := 2) hx hb dX12_plain_68 (by decide) ?_
      obtain ⟨h66, hf⟩ := hs_ck hf
      obtain ⟨r68, g67, h69, hf⟩ := hs_bd_some hf
      refine hs_calli (va_runV (As := [.int (2 : Int32)]) (rest := [.int ((256 : Int32) * s0), .ref (B + v0)]) ⟨hx, hb, hml, hown, hts⟩ (ctX12_codeAt l B D E v0 (2 : Int32) g9 _ h69) (cwV 1 hts (hs_gV (fun _ h => List.mem_cons_of_mem _ h) wq870 wq871 wq872 wq5 wq873) rfl rfl rfl (by decide +kernel) ⟨Nat.le_of_ble_eq_true rfl, Nat.le_of_ble_eq_true rfl⟩) (hs_preV (r := (RX12, TX12, 48)) hP hK h66 (by decide) rfl) rfl rfl hl.1 rfl (lv_room (Nat.le_of_ble_eq_true rfl)) dX12_plain_69 ⟨(Nat.le_of_ble_eq_true rfl), (Nat.le_of_ble_eq_true rfl)⟩) hS (fun H locs hP hS => ?_)
      refine lv_iadd hx hb dX12_plain_72 ?_
      obtain ⟨r71, g70, h72, hf⟩ := hs_bd_some hf
      refine hs_calli (va_runS (As := [.int (((256 : Int32) * s0) + r68)]) (rest := [.ref (B + v0)]) ⟨hx, hb, hml, hown, hts⟩ (ctX12_signedTwo l B D E (((256 : Int32) * s0) + r68) g67 _ h72) (va_cwS 1 hts (hs_gS (fun _ h => List.mem_cons_of_mem _ h) wq436 wq437 wq5 wq438) rfl rfl rfl (by decide +kernel) ⟨Nat.le_of_ble_eq_true rfl, Nat.le_of_ble_eq_true rfl⟩) (hs_pre hP hK) rfl rfl hl.1 rfl (lv_room (Nat.le_of_ble_eq_true rfl)) dX12_plain_73 ⟨(Nat.le_of_ble_eq_true rfl), (Nat.le_of_ble_eq_true rfl)⟩) hS (fun H locs hP hS => ?_)
      obtain ⟨h73, hf⟩ := hs_ck hf
      obtain ⟨g74, h76, hf⟩ := hs_bv_some hf
      refine hs_callv (va_runV (As := [.int r71]) (rest := []) ⟨hx, hb, hml, hown, hts⟩ (ctX12_push l B D E v0 r71 g70 _ h76) (cwV 1 hts (hs_gV (fun _ h => List.mem_cons_of_mem _ h) wq890 wq891 wq892 wq5 wq893) rfl rfl rfl (by decide +kernel) ⟨Nat.le_of_ble_eq_true rfl, Nat.le_of_ble_eq_true rfl⟩) (hs_preV (r := (RX12, TX12, 48)) hP hK h73 (by decide) rfl) rfl rfl hl.1 rfl (lv_room (Nat.le_of_ble_eq_true rfl)) dX12_plain_76 ⟨(Nat.le_of_ble_eq_true rfl), (Nat.le_of_ble_eq_true rfl)⟩) hS (fun H locs hP hS => ?_)
      refine lv_goto (tgt := 230) hx hb dX12_plain_79 (by decide) ?_
      exact wX12_plain_j230 hX hf hP hS (lv_sub hl [2, 4, 0] rfl)
  · replace hf := hs_t hf hc
    refine lv_aload_n hx hb dX12_plain_44 rfl (lv_at hl 2 rfl) ?_
    refine lv_iload_n hx hb dX12_plain_45 rfl (lv_at hl 1 rfl) ?_
    obtain ⟨r78, g77, h79, hf⟩ := hs_bd_some hf
    refine hs_calli (va_runS (As := [.int s0]) (rest := [.ref (B + v0)]) ⟨hx, hb, hml, hown, hts⟩ (ctX12_signed l B D E s0 g9 _ h79) (va_cwS 1 hts (hs_gS (fun _ h => List.mem_cons_of_mem _ h) wq440 wq441 wq5 wq442) rfl rfl rfl (by decide +kernel) ⟨Nat.le_of_ble_eq_true rfl, Nat.le_of_ble_eq_true rfl⟩) (hs_pre hP hK) rfl rfl hl.1 rfl (lv_room (Nat.le_of_ble_eq_true rfl)) dX12_plain_46 ⟨(Nat.le_of_ble_eq_true rfl), (Nat.le_of_ble_eq_true rfl)⟩) hS (fun H locs hP hS => ?_)
    obtain ⟨h80, hf⟩ := hs_ck hf
    obtain ⟨g81, h83, hf⟩ := hs_bv_some hf
    refine hs_callv (va_runV (As := [.int r78]) (rest := []) ⟨hx, hb, hml, hown, hts⟩ (ctX12_push l B D E v0 r78 g77 _ h83) (cwV 1 hts (hs_gV (fun _ h => List.mem_cons_of_mem _ h) wq890 wq891 wq892 wq5 wq893) rfl rfl rfl (by decide +kernel) ⟨Nat.le_of_ble_eq_true rfl, Nat.le_of_ble_eq_true rfl⟩) (hs_preV (r := (RX12, TX12, 48)) hP hK h80 (by decide) rfl) rfl rfl hl.1 rfl (lv_room (Nat.le_of_ble_eq_true rfl)) dX12_plain_49 ⟨(Nat.le_of_ble_eq_true rfl), (Nat.le_of_ble_eq_true rfl)⟩) hS (fun H locs hP hS => ?_)
    refine lv_goto (tgt := 230) hx hb dX12_plain_52 (by decide) ?_
    exact wX12_plain_j230 hX hf hP hS (lv_sub hl [2, 4, 0] rfl)

set_option maxHeartbeats 4000000 in
set_option maxRecDepth 100000 in
theorem ctX12_plain (l : Launch) (B : Nat) (D : va_G) (E : Nat → ClassId) (v0 : Nat) (v1 : Int32) (g : hs_S) (o : hs_S) (hf : fX12_plain v0 v1 g = some o) : Met l yX12_plain wcX12_plain rmX12_plain (hs_Pc B D E g [.ref (B + v0), .int v1]) (hs_Qv B D E o) (0) (0) (hs_F B) := by
  refine Met.ofW (cc := cX12_plain) (maxL := 7) (ret := none) (by decide) rfl ?_
  intro p e s m args below meth c s₁ Bd hml hv
  obtain ⟨rfl, hP, hK⟩ := hv
  have hx := Bd.exec
  have hb := Bd.bytes
  have hr := Bd.returns
  have hts := atoms_spec (ws := wcX12_plain) Bd.pre
  have hown : s.vm.findClass RX12 = some m.cls := findClass_of_methodNamed Bd.named
  have hlocks := Bd.notSynchronized
  have hS : hs_Sx B s.heap s.heap [] := va_S.rf
  have hX : hs_cx cX12_plain none 7 RX12 wcX12_plain p s m (List.toArray [.ref (B + v0), .int v1]) meth c D E := ⟨hx, hb, hr, hml, hown, hts, hlocks, hK⟩
  have hl := lv_entry ([.ref (B + v0), .int v1]) (n := 7) (Nat.le_of_ble_eq_true rfl)
  rw [lg_entry_eq]
  generalize (lg_sl ([.ref (B + v0), .int v1]) ++ List.replicate (7 - (lg_sl ([.ref (B + v0), .int v1])).length) Slot.unset).toArray = ls at hl ⊢
  have hl : lv_has ls 7 [(0, .ref (B + v0)), (1, .int v1)] := hl
  have hP : hs_P B D E g s.heap := hP
  unfold fX12_plain at hf
  refine lv_aload_n hx hb dX12_plain_0 rfl (lv_at hl 0 rfl) ?_
  obtain ⟨h1, hf⟩ := hs_ck hf
  refine hs_geti (C := RX12) (T := TX12) (N := 48) hx hb hts (fun w h => List.mem_cons_of_mem _ (inlX12 w h)) hown hK.1 hP h1 (by decide) rfl 40 (by decide) (hts _ (List.mem_cons_of_mem _ wq859)) (fun _ h => h) rfl dX12_plain_1 ?_
  refine lv_iconst (v := 1) hx hb dX12_plain_4 (by decide) ?_
  refine lv_isub hx hb dX12_plain_5 ?_
  refine lv_istore_n (lv' := [(2, .int ((hs_I g v0 40) - (1 : Int32))), (0, .ref (B + v0)), (1, .int v1)]) hx hb dX12_plain_6 rfl hl (by decide) rfl (fun ls hl => ?_)
  refine lv_iload_n hx hb dX12_plain_7 rfl (lv_at hl 2 rfl) ?_
  obtain ⟨r3, g2, h4, hf⟩ := hs_bd_some hf
  refine hs_calli (va_runS (As := [.int v1]) (rest := []) ⟨hx, hb, hml, hown, hts⟩ (ctX12_size l B D E v1 g _ h4) (va_cwS 1 hts (hs_gS (fun _ h => List.mem_cons_of_mem _ h) wq423 wq424 wq5 wq425) rfl rfl rfl (by decide +kernel) ⟨Nat.le_of_ble_eq_true rfl, Nat.le_of_ble_eq_true rfl⟩) (hs_pre hP hK) rfl rfl hl.1 rfl (lv_room (Nat.le_of_ble_eq_true rfl)) dX12_plain_8 ⟨(Nat.le_of_ble_eq_true rfl), (Nat.le_of_ble_eq_true rfl)⟩) hS (fun H locs hP hS => ?_)
  refine lv_iconst (v := 1) hx hb dX12_plain_11 (by decide) ?_
  refine lv_icmp_le (tgt := 23) hx hb dX12_plain_12 (by decide) (fun hc => ?_) (fun hc => ?_)
  · replace hf := hs_t hf hc
    refine lv_iconst (v := 0) hx hb dX12_plain_23 (by decide) ?_
    exact wX12_plain_j24 hX hf hP hS (lv_sub hl [1, 2, 0] rfl)
  · replace hf := hs_f hf hc
    refine lv_aload_n hx hb dX12_plain_15 rfl (lv_at hl 1 rfl) ?_
    refine lv_iconst (v := 1) hx hb dX12_plain_16 (by decide) ?_
    obtain ⟨h84, hf⟩ := hs_ck hf
    obtain ⟨r86, g85, h87, hf⟩ := hs_bd_some hf
    refine hs_calli (va_runV (As := [.int (1 : Int32)]) (rest := []) ⟨hx, hb, hml, hown, hts⟩ (ctX12_codeAt l B D E v0 (1 : Int32) g2 _ h87) (cwV 1 hts (hs_gV (fun _ h => List.mem_cons_of_mem _ h) wq870 wq871 wq872 wq5 wq873) rfl rfl rfl (by decide +kernel) ⟨Nat.le_of_ble_eq_true rfl, Nat.le_of_ble_eq_true rfl⟩) (hs_preV (r := (RX12, TX12, 48)) hP hK h84 (by decide) rfl) rfl rfl hl.1 rfl (lv_room (Nat.le_of_ble_eq_true rfl)) dX12_plain_17 ⟨(Nat.le_of_ble_eq_true rfl), (Nat.le_of_ble_eq_true rfl)⟩) hS (fun H locs hP hS => ?_)
    refine lv_goto (tgt := 24) hx hb dX12_plain_20 (by decide) ?_
    exact wX12_plain_j24 hX hf hP hS (lv_sub hl [1, 2, 0] rfl)

