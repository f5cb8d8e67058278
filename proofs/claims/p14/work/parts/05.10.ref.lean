theorem dX12_step_0 : decode cX12_step 0 = .ok (.aload_n 0, 1) := by decide +kernel
theorem dX12_step_1 : decode cX12_step 1 = .ok (.iconst 0, 1) := by decide +kernel
theorem dX12_step_2 : decode cX12_step 2 = .ok (.invokevirtual 276, 3) := by decide +kernel
theorem dX12_step_5 : decode cX12_step 5 = .ok (.istore_n 1, 1) := by decide +kernel
theorem dX12_step_6 : decode cX12_step 6 = .ok (.iload_n 1, 1) := by decide +kernel
theorem dX12_step_7 : decode cX12_step 7 = .ok (.sipush 202, 3) := by decide +kernel
theorem dX12_step_10 : decode cX12_step 10 = .ok (.if_icmp .ne 58, 3) := by decide +kernel
theorem dX12_step_13 : decode cX12_step 13 = .ok (.aload_n 0, 1) := by decide +kernel
theorem dX12_step_14 : decode cX12_step 14 = .ok (.aload_n 0, 1) := by decide +kernel
theorem dX12_step_15 : decode cX12_step 15 = .ok (.iconst 1, 1) := by decide +kernel
theorem dX12_step_16 : decode cX12_step 16 = .ok (.invokevirtual 276, 3) := by decide +kernel
theorem dX12_step_19 : decode cX12_step 19 = .ok (.bipush 24, 2) := by decide +kernel
theorem dX12_step_21 : decode cX12_step 21 = .ok (.ishl, 1) := by decide +kernel
theorem dX12_step_22 : decode cX12_step 22 = .ok (.aload_n 0, 1) := by decide +kernel
theorem dX12_step_23 : decode cX12_step 23 = .ok (.iconst 2, 1) := by decide +kernel
theorem dX12_step_24 : decode cX12_step 24 = .ok (.invokevirtual 276, 3) := by decide +kernel
theorem dX12_step_27 : decode cX12_step 27 = .ok (.bipush 16, 2) := by decide +kernel
theorem dX12_step_29 : decode cX12_step 29 = .ok (.ishl, 1) := by decide +kernel
theorem dX12_step_30 : decode cX12_step 30 = .ok (.ior, 1) := by decide +kernel
theorem dX12_step_31 : decode cX12_step 31 = .ok (.aload_n 0, 1) := by decide +kernel
theorem dX12_step_32 : decode cX12_step 32 = .ok (.iconst 3, 1) := by decide +kernel
theorem dX12_step_33 : decode cX12_step 33 = .ok (.invokevirtual 276, 3) := by decide +kernel
theorem dX12_step_36 : decode cX12_step 36 = .ok (.bipush 8, 2) := by decide +kernel
theorem dX12_step_38 : decode cX12_step 38 = .ok (.ishl, 1) := by decide +kernel
theorem dX12_step_39 : decode cX12_step 39 = .ok (.ior, 1) := by decide +kernel
theorem dX12_step_40 : decode cX12_step 40 = .ok (.aload_n 0, 1) := by decide +kernel
theorem dX12_step_41 : decode cX12_step 41 = .ok (.iconst 4, 1) := by decide +kernel
theorem dX12_step_42 : decode cX12_step 42 = .ok (.invokevirtual 276, 3) := by decide +kernel
theorem dX12_step_45 : decode cX12_step 45 = .ok (.ior, 1) := by decide +kernel
theorem dX12_step_46 : decode cX12_step 46 = .ok (.invokevirtual 279, 3) := by decide +kernel
theorem dX12_step_49 : decode cX12_step 49 = .ok (.ifCond .eq 18, 3) := by decide +kernel
theorem dX12_step_52 : decode cX12_step 52 = .ok (.aload_n 0, 1) := by decide +kernel
theorem dX12_step_53 : decode cX12_step 53 = .ok (.getfield 105, 3) := by decide +kernel
theorem dX12_step_56 : decode cX12_step 56 = .ok (.aload_n 0, 1) := by decide +kernel
theorem dX12_step_57 : decode cX12_step 57 = .ok (.getfield 254, 3) := by decide +kernel
theorem dX12_step_60 : decode cX12_step 60 = .ok (.iconst 1, 1) := by decide +kernel
theorem dX12_step_61 : decode cX12_step 61 = .ok (.isub, 1) := by decide +kernel
theorem dX12_step_62 : decode cX12_step 62 = .ok (.dup2, 1) := by decide +kernel
theorem dX12_step_63 : decode cX12_step 63 = .ok (.iaload, 1) := by decide +kernel
theorem dX12_step_64 : decode cX12_step 64 = .ok (.iconst 5, 1) := by decide +kernel
theorem dX12_step_65 : decode cX12_step 65 = .ok (.iadd, 1) := by decide +kernel
theorem dX12_step_66 : decode cX12_step 66 = .ok (.iastore, 1) := by decide +kernel
theorem dX12_step_67 : decode cX12_step 67 = .ok (.return_, 1) := by decide +kernel
theorem dX12_step_68 : decode cX12_step 68 = .ok (.iload_n 1, 1) := by decide +kernel
theorem dX12_step_69 : decode cX12_step 69 = .ok (.sipush 203, 3) := by decide +kernel
theorem dX12_step_72 : decode cX12_step 72 = .ok (.if_icmp .ne 37, 3) := by decide +kernel
theorem dX12_step_75 : decode cX12_step 75 = .ok (.aload_n 0, 1) := by decide +kernel
theorem dX12_step_76 : decode cX12_step 76 = .ok (.invokevirtual 282, 3) := by decide +kernel
theorem dX12_step_79 : decode cX12_step 79 = .ok (.ifCond .le 14, 3) := by decide +kernel
theorem dX12_step_82 : decode cX12_step 82 = .ok (.aload_n 0, 1) := by decide +kernel
theorem dX12_step_83 : decode cX12_step 83 = .ok (.aload_n 0, 1) := by decide +kernel
theorem dX12_step_84 : decode cX12_step 84 = .ok (.invokevirtual 282, 3) := by decide +kernel
theorem dX12_step_87 : decode cX12_step 87 = .ok (.invokevirtual 279, 3) := by decide +kernel
theorem dX12_step_90 : decode cX12_step 90 = .ok (.ifCond .eq 18, 3) := by decide +kernel
theorem dX12_step_93 : decode cX12_step 93 = .ok (.aload_n 0, 1) := by decide +kernel
theorem dX12_step_94 : decode cX12_step 94 = .ok (.getfield 105, 3) := by decide +kernel
theorem dX12_step_97 : decode cX12_step 97 = .ok (.aload_n 0, 1) := by decide +kernel
theorem dX12_step_98 : decode cX12_step 98 = .ok (.getfield 254, 3) := by decide +kernel
theorem dX12_step_101 : decode cX12_step 101 = .ok (.iconst 1, 1) := by decide +kernel
theorem dX12_step_102 : decode cX12_step 102 = .ok (.isub, 1) := by decide +kernel
theorem dX12_step_103 : decode cX12_step 103 = .ok (.dup2, 1) := by decide +kernel
theorem dX12_step_104 : decode cX12_step 104 = .ok (.iaload, 1) := by decide +kernel
theorem dX12_step_105 : decode cX12_step 105 = .ok (.iconst 1, 1) := by decide +kernel
theorem dX12_step_106 : decode cX12_step 106 = .ok (.iadd, 1) := by decide +kernel
theorem dX12_step_107 : decode cX12_step 107 = .ok (.iastore, 1) := by decide +kernel
theorem dX12_step_108 : decode cX12_step 108 = .ok (.return_, 1) := by decide +kernel
theorem dX12_step_109 : decode cX12_step 109 = .ok (.aload_n 0, 1) := by decide +kernel
theorem dX12_step_110 : decode cX12_step 110 = .ok (.getfield 261, 3) := by decide +kernel
theorem dX12_step_113 : decode cX12_step 113 = .ok (.sipush 20000, 3) := by decide +kernel
theorem dX12_step_116 : decode cX12_step 116 = .ok (.if_icmp .ne 9, 3) := by decide +kernel
theorem dX12_step_119 : decode cX12_step 119 = .ok (.aload_n 0, 1) := by decide +kernel
theorem dX12_step_120 : decode cX12_step 120 = .ok (.iconst 1, 1) := by decide +kernel
theorem dX12_step_121 : decode cX12_step 121 = .ok (.putfield 248, 3) := by decide +kernel
theorem dX12_step_124 : decode cX12_step 124 = .ok (.return_, 1) := by decide +kernel
theorem dX12_step_125 : decode cX12_step 125 = .ok (.aload_n 0, 1) := by decide +kernel
theorem dX12_step_126 : decode cX12_step 126 = .ok (.dup, 1) := by decide +kernel
theorem dX12_step_127 : decode cX12_step 127 = .ok (.getfield 261, 3) := by decide +kernel
theorem dX12_step_130 : decode cX12_step 130 = .ok (.iconst 1, 1) := by decide +kernel
theorem dX12_step_131 : decode cX12_step 131 = .ok (.iadd, 1) := by decide +kernel
theorem dX12_step_132 : decode cX12_step 132 = .ok (.putfield 261, 3) := by decide +kernel
theorem dX12_step_135 : decode cX12_step 135 = .ok (.iload_n 1, 1) := by decide +kernel
theorem dX12_step_136 : decode cX12_step 136 = .ok (.sipush 172, 3) := by decide +kernel
theorem dX12_step_139 : decode cX12_step 139 = .ok (.if_icmp .ne 10, 3) := by decide +kernel
theorem dX12_step_142 : decode cX12_step 142 = .ok (.aload_n 0, 1) := by decide +kernel
theorem dX12_step_143 : decode cX12_step 143 = .ok (.invokevirtual 285, 3) := by decide +kernel
theorem dX12_step_146 : decode cX12_step 146 = .ok (.goto 78, 3) := by decide +kernel
theorem dX12_step_149 : decode cX12_step 149 = .ok (.iload_n 1, 1) := by decide +kernel
theorem dX12_step_150 : decode cX12_step 150 = .ok (.sipush 184, 3) := by decide +kernel
theorem dX12_step_153 : decode cX12_step 153 = .ok (.if_icmp .ne 10, 3) := by decide +kernel
theorem dX12_step_156 : decode cX12_step 156 = .ok (.aload_n 0, 1) := by decide +kernel
theorem dX12_step_157 : decode cX12_step 157 = .ok (.invokevirtual 288, 3) := by decide +kernel
theorem dX12_step_160 : decode cX12_step 160 = .ok (.goto 64, 3) := by decide +kernel
theorem dX12_step_163 : decode cX12_step 163 = .ok (.iload_n 1, 1) := by decide +kernel
theorem dX12_step_164 : decode cX12_step 164 = .ok (.invokestatic 161, 3) := by decide +kernel
theorem dX12_step_167 : decode cX12_step 167 = .ok (.ifCond .eq 11, 3) := by decide +kernel
theorem dX12_step_170 : decode cX12_step 170 = .ok (.aload_n 0, 1) := by decide +kernel
theorem dX12_step_171 : decode cX12_step 171 = .ok (.iload_n 1, 1) := by decide +kernel
theorem dX12_step_172 : decode cX12_step 172 = .ok (.invokevirtual 291, 3) := by decide +kernel
theorem dX12_step_175 : decode cX12_step 175 = .ok (.goto 49, 3) := by decide +kernel
theorem dX12_step_178 : decode cX12_step 178 = .ok (.iload_n 1, 1) := by decide +kernel
theorem dX12_step_179 : decode cX12_step 179 = .ok (.sipush 188, 3) := by decide +kernel
theorem dX12_step_182 : decode cX12_step 182 = .ok (.if_icmp .eq 29, 3) := by decide +kernel
theorem dX12_step_185 : decode cX12_step 185 = .ok (.iload_n 1, 1) := by decide +kernel
theorem dX12_step_186 : decode cX12_step 186 = .ok (.sipush 190, 3) := by decide +kernel
theorem dX12_step_189 : decode cX12_step 189 = .ok (.if_icmp .eq 22, 3) := by decide +kernel
theorem dX12_step_192 : decode cX12_step 192 = .ok (.iload_n 1, 1) := by decide +kernel
theorem dX12_step_193 : decode cX12_step 193 = .ok (.bipush 46, 2) := by decide +kernel
theorem dX12_step_195 : decode cX12_step 195 = .ok (.if_icmp .eq 16, 3) := by decide +kernel
theorem dX12_step_198 : decode cX12_step 198 = .ok (.iload_n 1, 1) := by decide +kernel
theorem dX12_step_199 : decode cX12_step 199 = .ok (.bipush 79, 2) := by decide +kernel
theorem dX12_step_201 : decode cX12_step 201 = .ok (.if_icmp .eq 10, 3) := by decide +kernel
theorem dX12_step_204 : decode cX12_step 204 = .ok (.iload_n 1, 1) := by decide +kernel
theorem dX12_step_205 : decode cX12_step 205 = .ok (.sipush 191, 3) := by decide +kernel
theorem dX12_step_208 : decode cX12_step 208 = .ok (.if_icmp .ne 11, 3) := by decide +kernel
theorem dX12_step_211 : decode cX12_step 211 = .ok (.aload_n 0, 1) := by decide +kernel
theorem dX12_step_212 : decode cX12_step 212 = .ok (.iload_n 1, 1) := by decide +kernel
theorem dX12_step_213 : decode cX12_step 213 = .ok (.invokevirtual 294, 3) := by decide +kernel
theorem dX12_step_216 : decode cX12_step 216 = .ok (.goto 8, 3) := by decide +kernel
theorem dX12_step_219 : decode cX12_step 219 = .ok (.aload_n 0, 1) := by decide +kernel
theorem dX12_step_220 : decode cX12_step 220 = .ok (.iload_n 1, 1) := by decide +kernel
theorem dX12_step_221 : decode cX12_step 221 = .ok (.invokevirtual 297, 3) := by decide +kernel
theorem dX12_step_224 : decode cX12_step 224 = .ok (.return_, 1) := by decide +kernel
abbrev wcX12_step : List Cond := .code yX12_step cX12_step 2 none :: wsL_law
def jX12_step_211 (v0 : Nat) (v1 : Int32) (g : hs_S) : Option (hs_S) :=
  if hs_kd g v0 = 10 then
  hs_bv (fX12_ofArrays v0 v1 g) fun g10 =>
  some g10
  else none
def jX12_step_93 (v0 : Nat) (g : hs_S) : Option (hs_S) :=
  if hs_kd g v0 = 10 then
  if ¬ (hs_R g v0 42) = 0 then
  if hs_kd g ((hs_R g v0 42) - 1) = 100 then
  if hs_in ((hs_I g v0 40) - (1 : Int32)) (hs_ln g ((hs_R g v0 42) - 1)) = true then
  some (hs_wI g ((hs_R g v0 42) - 1) ((hs_I g v0 40) - (1 : Int32)).toNatClampNeg ((hs_I g ((hs_R g v0 42) - 1) ((hs_I g v0 40) - (1 : Int32)).toNatClampNeg) + (1 : Int32)))
  else none else none else none else none
def fX12_step (v0 : Nat) (g : hs_S) : Option (hs_S) :=
  if hs_kd g v0 = 10 then
  hs_bd (fX12_codeAt v0 (0 : Int32) g) fun r3 g2 =>
  if r3 = (202 : Int32) then (
    if hs_kd g2 v0 = 10 then
    hs_bd (fX12_codeAt v0 (1 : Int32) g2) fun r45 g44 =>
    if hs_kd g44 v0 = 10 then
    hs_bd (fX12_codeAt v0 (2 : Int32) g44) fun r49 g48 =>
    if hs_kd g48 v0 = 10 then
    hs_bd (fX12_codeAt v0 (3 : Int32) g48) fun r53 g52 =>
    if hs_kd g52 v0 = 10 then
    hs_bd (fX12_codeAt v0 (4 : Int32) g52) fun r57 g56 =>
    if hs_kd g56 v0 = 10 then
    hs_bd (fX12_pays v0 ((((r45 <<< ((24 : Int32) &&& 31)) ||| (r49 <<< ((16 : Int32) &&& 31))) ||| (r53 <<< ((8 : Int32) &&& 31))) ||| r57) g56) fun r61 g60 =>
    if r61 = 0 then (
      some g60
    ) else (
      if hs_kd g60 v0 = 10 then
      if ¬ (hs_R g60 v0 42) = 0 then
      if hs_kd g60 ((hs_R g60 v0 42) - 1) = 100 then
      if hs_in ((hs_I g60 v0 40) - (1 : Int32)) (hs_ln g60 ((hs_R g60 v0 42) - 1)) = true then
      some (hs_wI g60 ((hs_R g60 v0 42) - 1) ((hs_I g60 v0 40) - (1 : Int32)).toNatClampNeg ((hs_I g60 ((hs_R g60 v0 42) - 1) ((hs_I g60 v0 40) - (1 : Int32)).toNatClampNeg) + (5 : Int32)))
      else none else none else none else none
    )
    else none else none else none else none else none
  ) else (
    if r3 = (203 : Int32) then (
      if hs_kd g2 v0 = 10 then
      hs_bd (fX12_top v0 g2) fun r29 g28 =>
      if r29 ≤ 0 then (
        jX12_step_93 v0 g28
      ) else (
        if hs_kd g28 v0 = 10 then
        hs_bd (fX12_top v0 g28) fun r37 g36 =>
        if hs_kd g36 v0 = 10 then
        hs_bd (fX12_pays v0 r37 g36) fun r41 g40 =>
        if r41 = 0 then (
          some g40
        ) else (
          jX12_step_93 v0 g40
        )
        else none else none
      )
      else none
    ) else (
      if hs_kd g2 v0 = 10 then
      if (hs_I g2 v0 38) = (20000 : Int32) then (
        some (hs_wI g2 v0 46 (1 : Int32))
      ) else (
        if r3 = (172 : Int32) then (
          hs_bv (fX12_ends v0 (hs_wI g2 v0 38 ((hs_I g2 v0 38) + (1 : Int32)))) fun g24 =>
          some g24
        ) else (
          if r3 = (184 : Int32) then (
            hs_bv (fX12_calls v0 (hs_wI g2 v0 38 ((hs_I g2 v0 38) + (1 : Int32)))) fun g21 =>
            some g21
          ) else (
            hs_bd (fX12_isJump r3 (hs_wI g2 v0 38 ((hs_I g2 v0 38) + (1 : Int32)))) fun r7 g6 =>
            if r7 = 0 then (
              if r3 = (188 : Int32) then (
                jX12_step_211 v0 r3 g6
              ) else (
                if r3 = (190 : Int32) then (
                  jX12_step_211 v0 r3 g6
                ) else (
                  if r3 = (46 : Int32) then (
                    jX12_step_211 v0 r3 g6
                  ) else (
                    if r3 = (79 : Int32) then (
                      jX12_step_211 v0 r3 g6
                    ) else (
                      if r3 = (191 : Int32) then (
                        jX12_step_211 v0 r3 g6
                      ) else (
                        if hs_kd g6 v0 = 10 then
                        hs_bv (fX12_plain v0 r3 g6) fun g14 =>
                        some g14
                        else none
                      )
                    )
                  )
                )
              )
            ) else (
              if hs_kd g6 v0 = 10 then
              hs_bv (fX12_jumps v0 r3 g6) fun g18 =>
              some g18
              else none
            )
          )
        )
      )
      else none
    )
  )
  else none
abbrev rmX12_step : Room := { frames := 3, cells := 0, slots := 0, locals := 66 }
set_option maxHeartbeats 4000000 in
set_option maxRecDepth 100000 in
theorem wX12_step_j211 {p : Program} {l : Launch} {e : Env} {s : State} {m : MethodId} {args : Array Value} {below : List Frame} {meth : Method} {c : Code} {B : Nat} {D : va_G} {E : Nat → ClassId} (hX : hs_cx cX12_step none 2 RX12 wcX12_step p s m args meth c D E) {o : hs_S}  {v0 : Nat} {v1 : Int32}   {g : hs_S} {H : Heap} {locs : List Loc} {ls : Array Slot} (hf : jX12_step_211 v0 v1 g = some o) (hP : hs_P B D E g H) (hS : hs_Sx B s.heap H locs) (hl : lv_has ls 2 [(0, .ref (B + v0)), (1, .int v1)]) : W p l e rmX12_step s m args below meth c H locs 0 0 (MQ below (hs_Qv B D E o) args s 0 0 (hs_F B)) (F0 m 211 ls []) := by
  obtain ⟨hx, hb, hr, hml, hown, hts, hlocks, hK⟩ := id hX
  unfold jX12_step_211 at hf
  refine lv_aload_n hx hb dX12_step_211 rfl (lv_at hl 0 rfl) ?_
  refine lv_iload_n hx hb dX12_step_212 rfl (lv_at hl 1 rfl) ?_
  obtain ⟨h9, hf⟩ := hs_ck hf
  obtain ⟨g10, h12, hf⟩ := hs_bv_some hf
  refine hs_callv (va_runV (As := [.int v1]) (rest := []) ⟨hx, hb, hml, hown, hts⟩ (ctX12_ofArrays l B D E v0 v1 g _ h12) (cwV 1 hts (hs_gV (fun _ h => List.mem_cons_of_mem _ h) wq902 wq903 wq904 wq5 wq905) rfl rfl rfl (by decide +kernel) ⟨Nat.le_of_ble_eq_true rfl, Nat.le_of_ble_eq_true rfl⟩) (hs_preV (r := (RX12, TX12, 48)) hP hK h9 (by decide) rfl) rfl rfl hl.1 rfl (lv_room (Nat.le_of_ble_eq_true rfl)) dX12_step_213 ⟨(Nat.le_of_ble_eq_true rfl), (Nat.le_of_ble_eq_true rfl)⟩) hS (fun H locs hP hS => ?_)
  refine lv_goto (tgt := 224) hx hb dX12_step_216 (by decide) ?_
  exact hs_vret hx hb hr hlocks hK hP hS hf dX12_step_224

set_option maxHeartbeats 4000000 in
set_option maxRecDepth 100000 in
theorem wX12_step_j93 {p : Program} {l : Launch} {e : Env} {s : State} {m : MethodId} {args : Array Value} {below : List Frame} {meth : Method} {c : Code} {B : Nat} {D : va_G} {E : Nat → ClassId} (hX : hs_cx cX12_step none 2 RX12 wcX12_step p s m args meth c D E) {o : hs_S}  {v0 : Nat}   {g : hs_S} {H : Heap} {locs : List Loc} {ls : Array Slot} (hf : jX12_step_93 v0 g = some o) (hP : hs_P B D E g H) (hS : hs_Sx B s.heap H locs) (hl : lv_has ls 2 [(0, .ref (B + v0))]) : W p l e rmX12_step s m args below meth c H locs 0 0 (MQ below (hs_Qv B D E o) args s 0 0 (hs_F B)) (F0 m 93 ls []) := by
  obtain ⟨hx, hb, hr, hml, hown, hts, hlocks, hK⟩ := id hX
  unfold jX12_step_93 at hf
  refine lv_aload_n hx hb dX12_step_93 rfl (lv_at hl 0 rfl) ?_
  obtain ⟨h31, hf⟩ := hs_ck hf
  obtain ⟨h32, hf⟩ := hs_ck hf
  refine hs_getr (C := RX12) (T := TX12) (N := 48) hx hb hts (fun w h => List.mem_cons_of_mem _ (inlX12 w h)) hown hK.1 hP h31 (by decide) rfl 42 (by decide) (hts _ (List.mem_cons_of_mem _ wq153)) (fun _ h => h) rfl h32 dX12_step_94 ?_
  refine lv_aload_n hx hb dX12_step_97 rfl (lv_at hl 0 rfl) ?_
  refine hs_geti (C := RX12) (T := TX12) (N := 48) hx hb hts (fun w h => List.mem_cons_of_mem _ (inlX12 w h)) hown hK.1 hP h31 (by decide) rfl 40 (by decide) (hts _ (List.mem_cons_of_mem _ wq859)) (fun _ h => h) rfl dX12_step_98 ?_
  refine lv_iconst (v := 1) hx hb dX12_step_101 (by decide) ?_
  refine lv_isub hx hb dX12_step_102 ?_
  refine lv_dup2_11 hx hb dX12_step_103 rfl rfl ?_
  obtain ⟨h33, hf⟩ := hs_ck hf
  obtain ⟨h34, hf⟩ := hs_ck hf
  refine hs_iald hx hb hK.1 hP h33 h34 dX12_step_104 ?_
  refine lv_iconst (v := 1) hx hb dX12_step_105 (by decide) ?_
  refine lv_iadd hx hb dX12_step_106 ?_
  refine hs_iast hx hb hK.1 hP hS h33 h34 dX12_step_107 (fun H locs hP hS => ?_)
  exact hs_vret hx hb hr hlocks hK hP hS hf dX12_step_108

set_option maxHeartbeats 4000000 in
set_option maxRecDepth 100000 in
theorem ctX12_step (l : Launch) (B : Nat) (D : va_G) (E : Nat → ClassId) (v0 : Nat) (g : hs_S) (o : hs_S) (hf : fX12_step v0 g = some o) : Met l yX12_step wcX12_step rmX12_step (hs_Pc B D E g [.ref (B + v0)]) (hs_Qv B D E o) (0) (0) (hs_F B) := by
  refine Met.ofW (cc := cX12_step) (maxL := 2) (ret := none) (by decide) rfl ?_
  intro p e s m args below meth c s₁ Bd hml hv
  obtain ⟨rfl, hP, hK⟩ := hv
  have hx := Bd.exec
  have hb := Bd.bytes
  have hr := Bd.returns
  have hts := atoms_spec (ws := wcX12_step) Bd.pre
  have hown : s.vm.findClass RX12 = some m.cls := findClass_of_methodNamed Bd.named
  have hlocks := Bd.notSynchronized
  have hS : hs_Sx B s.heap s.heap [] := va_S.rf
  have hX : hs_cx cX12_step none 2 RX12 wcX12_step p s m (List.toArray [.ref (B + v0)]) meth c D E := ⟨hx, hb, hr, hml, hown, hts, hlocks, hK⟩
  have hl := lv_entry ([.ref (B + v0)]) (n := 2) (Nat.le_of_ble_eq_true rfl)
  rw [lg_entry_eq]
  generalize (lg_sl ([.ref (B + v0)]) ++ List.replicate (2 - (lg_sl ([.ref (B + v0)])).length) Slot.unset).toArray = ls at hl ⊢
  have hl : lv_has ls 2 [(0, .ref (B + v0))] := hl
  have hP : hs_P B D E g s.heap := hP
  unfold fX12_step at hf
  refine lv_aload_n hx hb dX12_step_0 rfl (lv_at hl 0 rfl) ?_
  refine lv_iconst (v := 0) hx hb dX12_step_1 (by decide) ?_
  obtain ⟨h1, hf⟩ := hs_ck hf
  obtain ⟨r3, g2, h4, hf⟩ := hs_bd_some hf
  refine hs_calli (va_runV (As := [.int (0 : Int32)]) (rest := []) ⟨hx, hb, hml, hown, hts⟩ (ctX12_codeAt l B D E v0 (0 : Int32) g _ h4) (cwV 1 hts (hs_gV (fun _ h => List.mem_cons_of_mem _ h) wq870 wq871 wq872 wq5 wq873) rfl rfl rfl (by decide +kernel) ⟨Nat.le_of_ble_eq_true rfl, Nat.le_of_ble_eq_true rfl⟩) (hs_preV (r := (RX12, TX12, 48)) hP hK h1 (by decide) rfl) rfl rfl hl.1 rfl (lv_room (Nat.le_of_ble_eq_true rfl)) dX12_step_2 ⟨(Nat.le_of_ble_eq_true rfl), (Nat.le_of_ble_eq_true rfl)⟩) hS (fun H locs hP hS => ?_)
  refine lv_istore_n (lv' := [(1, .int r3), (0, .ref (B + v0))]) hx hb dX12_step_5 rfl hl (by decide) rfl (fun ls hl => ?_)
  refine lv_iload_n hx hb dX12_step_6 rfl (lv_at hl 0 rfl) ?_
  refine lv_sipush (v := 202) hx hb dX12_step_7 (by decide) ?_
  refine lv_icmp_ne (tgt := 68) hx hb dX12_step_10 (by decide) (fun hc => ?_) (fun hc => ?_)
  · replace hf := hs_f hf hc
    refine lv_iload_n hx hb dX12_step_68 rfl (lv_at hl 0 rfl) ?_
    refine lv_sipush (v := 203) hx hb dX12_step_69 (by decide) ?_
    refine lv_icmp_ne (tgt := 109) hx hb dX12_step_72 (by decide) (fun hc => ?_) (fun hc => ?_)
    · replace hf := hs_f hf hc
      refine lv_aload_n hx hb dX12_step_109 rfl (lv_at hl 1 rfl) ?_
      obtain ⟨h5, hf⟩ := hs_ck hf
      refine hs_geti (C := RX12) (T := TX12) (N := 48) hx hb hts (fun w h => List.mem_cons_of_mem _ (inlX12 w h)) hown hK.1 hP h5 (by decide) rfl 38 (by decide) (hts _ (List.mem_cons_of_mem _ wq857)) (fun _ h => h) rfl dX12_step_110 ?_
      refine lv_sipush (v := 20000) hx hb dX12_step_113 (by decide) ?_
      refine lv_icmp_ne (tgt := 125) hx hb dX12_step_116 (by decide) (fun hc => ?_) (fun hc => ?_)
      · replace hf := hs_f hf hc
        refine lv_aload_n hx hb dX12_step_125 rfl (lv_at hl 1 rfl) ?_
        refine lv_dup hx hb dX12_step_126 rfl ?_
        refine hs_geti (C := RX12) (T := TX12) (N := 48) hx hb hts (fun w h => List.mem_cons_of_mem _ (inlX12 w h)) hown hK.1 hP h5 (by decide) rfl 38 (by decide) (hts _ (List.mem_cons_of_mem _ wq857)) (fun _ h => h) rfl dX12_step_127 ?_
        refine lv_iconst (v := 1) hx hb dX12_step_130 (by decide) ?_
        refine lv_iadd hx hb dX12_step_131 ?_
        refine hs_puti (C := RX12) (T := TX12) (N := 48) hx hb hts (fun w h => List.mem_cons_of_mem _ (inlX12 w h)) tyX12 tyX12_ok nmX12 hown hK.1 hP hS h5 (by decide) rfl 38 (by decide) (hts _ (List.mem_cons_of_mem _ wq857)) (fun _ h => h) (Or.inl rfl) rfl rfl rfl dX12_step_132 (fun H locs hP hS => ?_)
        refine lv_iload_n hx hb dX12_step_135 rfl (lv_at hl 0 rfl) ?_
        refine lv_sipush (v := 172) hx hb dX12_step_136 (by decide) ?_
        refine lv_icmp_ne (tgt := 149) hx hb dX12_step_139 (by decide) (fun hc => ?_) (fun hc => ?_)
        · replace hf := hs_f hf hc
          refine lv_iload_n hx hb dX12_step_149 rfl (lv_at hl 0 rfl) ?_
          refine lv_sipush (v := 184) hx hb dX12_step_150 (by decide) ?_
          refine lv_icmp_ne (tgt := 163) hx hb dX12_step_153 (by decide) (fun hc => ?_) (fun hc => ?_)
          · replace hf := hs_f hf hc
            refine lv_iload_n hx hb dX12_step_163 rfl (lv_at hl 0 rfl) ?_
            obtain ⟨r7, g6, h8, hf⟩ := hs_bd_some hf
            refine hs_calli (va_runS (As := [.int r3]) (rest := []) ⟨hx, hb, hml, hown, hts⟩ (ctX12_isJump l B D E r3 (hs_wI g2 v0 38 ((hs_I g2 v0 38) + (1 : Int32))) _ h8) (va_cwS 1 hts (hs_gS (fun _ h => List.mem_cons_of_mem _ h) wq430 wq431 wq5 wq432) rfl rfl rfl (by decide +kernel) ⟨Nat.le_of_ble_eq_true rfl, Nat.le_of_ble_eq_true rfl⟩) (hs_pre hP hK) rfl rfl hl.1 rfl (lv_room (Nat.le_of_ble_eq_true rfl)) dX12_step_164 ⟨(Nat.le_of_ble_eq_true rfl), (Nat.le_of_ble_eq_true rfl)⟩) hS (fun H locs hP hS => ?_)
            refine lv_if_eq (tgt := 178) hx hb dX12_step_167 (by decide) (fun hc => ?_) (fun hc => ?_)
            · replace hf := hs_t hf hc
              refine lv_iload_n hx hb dX12_step_178 rfl (lv_at hl 0 rfl) ?_
              refine lv_sipush (v := 188) hx hb dX12_step_179 (by decide) ?_
              refine lv_icmp_eq (tgt := 211) hx hb dX12_step_182 (by decide) (fun hc => ?_) (fun hc => ?_)
              · replace hf := hs_t hf hc
                exact wX12_step_j211 hX hf hP hS (lv_sub hl [1, 0] rfl)
              · replace hf := hs_f hf hc
                refine lv_iload_n hx hb dX12_step_185 rfl (lv_at hl 0 rfl) ?_
                refine lv_sipush (v := 190) hx hb dX12_step_186 (by decide) ?_
                refine lv_icmp_eq (tgt := 211) hx hb dX12_step_189 (by decide) (fun hc => ?_) (fun hc => ?_)
                · replace hf := hs_t hf hc
                  exact wX12_step_j211 hX hf hP hS (lv_sub hl [1, 0] rfl)
                · replace hf := hs_f hf hc
                  refine lv_iload_n hx hb dX12_step_192 rfl (lv_at hl 0 rfl) ?_
                  refine lv_bipush (v := 46) hx hb dX12_step_193 (by decide) ?_
                  refine lv_icmp_eq (tgt := 211) hx hb dX12_step_195 (by decide) (fun hc => ?_) (fun hc => ?_)
                  · replace hf := hs_t hf hc
                    exact wX12_step_j211 hX hf hP hS (lv_sub hl [1, 0] rfl)
                  · replace hf := hs_f hf hc
                    refine lv_iload_n hx hb dX12_step_198 rfl (lv_at hl 0 rfl) ?_
                    refine lv_bipush (v := 79) hx hb dX12_step_199 (by decide) ?_
                    refine lv_icmp_eq (tgt := 211) hx hb dX12_step_201 (by decide) (fun hc => ?_) (fun hc => ?_)
                    · replace hf := hs_t hf hc
                      exact wX12_step_j211 hX hf hP hS (lv_sub hl [1, 0] rfl)
                    · replace hf := hs_f hf hc
                      refine lv_iload_n hx hb dX12_step_204 rfl (lv_at hl 0 rfl) ?_
                      refine lv_sipush (v := 191) hx hb dX12_step_205 (by decide) ?_
                      refine lv_icmp_ne (tgt := 219) hx hb dX12_step_208 (by decide) (fun hc => ?_) (fun hc => ?_)
                      · replace hf := hs_f hf hc
                        refine lv_aload_n hx hb dX12_step_219 rfl (lv_at hl 1 rfl) ?_
                        refine lv_iload_n hx hb dX12_step_220 rfl (lv_at hl 0 rfl) ?_
                        obtain ⟨h13, hf⟩ := hs_ck hf
                        obtain ⟨g14, h16, hf⟩ := hs_bv_some hf
                        refine hs_callv (va_runV (As := [.int r3]) (rest := []) ⟨hx, hb, hml, hown, hts⟩ (ctX12_plain l B D E v0 r3 g6 _ h16) (cwV 1 hts (hs_gV (fun _ h => List.mem_cons_of_mem _ h) wq906 wq907 wq908 wq5 wq909) rfl rfl rfl (by decide +kernel) ⟨Nat.le_of_ble_eq_true rfl, Nat.le_of_ble_eq_true rfl⟩) (hs_preV (r := (RX12, TX12, 48)) hP hK h13 (by decide) rfl) rfl rfl hl.1 rfl (lv_room (Nat.le_of_ble_eq_true rfl)) dX12_step_221 ⟨(Nat.le_of_ble_eq_true rfl), (Nat.le_of_ble_eq_true rfl)⟩) hS (fun H locs hP hS => ?_)
                        exact hs_vret hx hb hr hlocks hK hP hS hf dX12_step_224
                      · replace hf := hs_t hf hc
                        exact wX12_step_j211 hX hf hP hS (lv_sub hl [1, 0] rfl)
            · replace hf := hs_f hf hc
              refine lv_aload_n hx hb dX12_step_170 rfl (lv_at hl 1 rfl) ?_
              refine lv_iload_n hx hb dX12_step_171 rfl (lv_at hl 0 rfl) ?_
              obtain ⟨h17, hf⟩ := hs_ck hf
              obtain ⟨g18, h20, hf⟩ := hs_bv_some hf
              refine hs_callv (va_runV (As := [.int r3]) (rest := []) ⟨hx, hb, hml, hown, hts⟩ (ctX12_jumps l B D E v0 r3 g6 _ h20) (cwV 1 hts (hs_gV (fun _ h => List.mem_cons_of_mem _ h) wq898 wq899 wq900 wq5 wq901) rfl rfl rfl (by decide +kernel) ⟨Nat.le_of_ble_eq_true rfl, Nat.le_of_ble_eq_true rfl⟩) (hs_preV (r := (RX12, TX12, 48)) hP hK h17 (by decide) rfl) rfl rfl hl.1 rfl (lv_room (Nat.le_of_ble_eq_true rfl)) dX12_step_172 ⟨(Nat.le_of_ble_eq_true rfl), (Nat.le_of_ble_eq_true rfl)⟩) hS (fun H locs hP hS => ?_)
              refine lv_goto (tgt := 224) hx hb dX12_step_175 (by decide) ?_
              exact hs_vret hx hb hr hlocks hK hP hS hf dX12_step_224
          · replace hf := hs_t hf hc
            refine lv_aload_n hx hb dX12_step_156 rfl (lv_at hl 1 rfl) ?_
            obtain ⟨g21, h23, hf⟩ := hs_bv_some hf
            refine hs_callv (va_runV (As := []) (rest := []) ⟨hx, hb, hml, hown, hts⟩ (ctX12_calls l B D E v0 (hs_wI g2 v0 38 ((hs_I g2 v0 38) + (1 : Int32))) _ h23) (cwV 0 hts (hs_gV (fun _ h => List.mem_cons_of_mem _ h) wq894 wq895 wq896 wq5 wq897) rfl rfl rfl (by decide +kernel) ⟨Nat.le_of_ble_eq_true rfl, Nat.le_of_ble_eq_true rfl⟩) (hs_preV (r := (RX12, TX12, 48)) hP hK h5 (by decide) rfl) rfl rfl hl.1 rfl (lv_room (Nat.le_of_ble_eq_true rfl)) dX12_step_157 ⟨(Nat.le_of_ble_eq_true rfl), (Nat.le_of_ble_eq_true rfl)⟩) hS (fun H locs hP hS => ?_)
            refine lv_goto (tgt := 224) hx hb dX12_step_160 (by decide) ?_
            exact hs_vret hx hb hr hlocks hK hP hS hf dX12_step_224
        · replace hf := hs_t hf hc
          refine lv_aload_n hx hb dX12_step_142 rfl (lv_at hl 1 rfl) ?_
          obtain ⟨g24, h26, hf⟩ := hs_bv_some hf
          refine hs_callv (va_runV (As := []) (rest := []) ⟨hx, hb, hml, hown, hts⟩ (ctX12_ends l B D E v0 (hs_wI g2 v0 38 ((hs_I g2 v0 38) + (1 : Int32))) _ h26) (cwV 0 hts (hs_gV (fun _ h => List.mem_cons_of_mem _ h) wq882 wq883 wq884 wq5 wq885) rfl rfl rfl (by decide +kernel) ⟨Nat.le_of_ble_eq_true rfl, Nat.le_of_ble_eq_true rfl⟩) (hs_preV (r := (RX12, TX12, 48)) hP hK h5 (by decide) rfl) rfl rfl hl.1 rfl (lv_room (Nat.le_of_ble_eq_true rfl)) dX12_step_143 ⟨(Nat.le_of_ble_eq_true rfl), (Nat.le_of_ble_eq_true rfl)⟩) hS (fun H locs hP hS => ?_)
          refine lv_goto (tgt := 224) hx hb dX12_step_146 (by decide) ?_
          exact hs_vret hx hb hr hlocks hK hP hS hf dX12_step_224
      · replace hf := hs_t hf hc
        refine lv_aload_n hx hb dX12_step_119 rfl (lv_at hl 1 rfl) ?_
        refine lv_iconst (v := 1) hx hb dX12_step_120 (by decide) ?_
        refine hs_puti (C := RX12) (T := TX12) (N := 48) hx hb hts (fun w h => List.mem_cons_of_mem _ (inlX12 w h)) tyX12 tyX12_ok nmX12 hown hK.1 hP hS h5 (by decide) rfl 46 (by decide) (hts _ (List.mem_cons_of_mem _ wq860)) (fun _ h => h) (Or.inl rfl) (hs_01_nar (rfl)) (hs_01_fit (rfl)) rfl dX12_step_121 (fun H locs hP hS => ?_)
        exact hs_vret hx hb hr hlocks hK hP hS hf dX12_step_124
    · replace hf := hs_t hf hc
      refine lv_aload_n hx hb dX12_step_75 rfl (lv_at hl 1 rfl) ?_
      obtain ⟨h27, hf⟩ := hs_ck hf
      obtain ⟨r29, g28, h30, hf⟩ := hs_bd_some hf
      refine hs_calli (va_runV (As := []) (rest := []) ⟨hx, hb, hml, hown, hts⟩ (ctX12_top l B D E v0 g2 _ h30) (cwV 0 hts (hs_gV (fun _ h => List.mem_cons_of_mem _ h) wq878 wq879 wq880 wq5 wq881) rfl rfl rfl (by decide +kernel) ⟨Nat.le_of_ble_eq_true rfl, Nat.le_of_ble_eq_true rfl⟩) (hs_preV (r := (RX12, TX12, 48)) hP hK h27 (by decide) rfl) rfl rfl hl.1 rfl (lv_room (Nat.le_of_ble_eq_true rfl)) dX12_step_76 ⟨(Nat.le_of_ble_eq_true rfl), (Nat.le_of_ble_eq_true rfl)⟩) hS (fun H locs hP hS => ?_)
      refine lv_if_le (tgt := 93) hx hb dX12_step_79 (by decide) (fun hc => ?_) (fun hc => ?_)
      · replace hf := hs_t hf hc
        exact wX12_step_j93 hX hf hP hS (lv_sub hl [1] rfl)
      · replace hf := hs_f hf hc
        refine lv_aload_n hx hb dX12_step_82 rfl (lv_at hl 1 rfl) ?_
        refine lv_aload_n hx hb dX12_step_83 rfl (lv_at hl 1 rfl) ?_
        obtain ⟨h35, hf⟩ := hs_ck hf
        obtain ⟨r37, g36, h38, hf⟩ := hs_bd_some hf
        refine hs_calli (va_runV (As := []) (rest := [.ref (B + v0)]) ⟨hx, hb, hml, hown, hts⟩ (ctX12_top l B D E v0 g28 _ h38) (cwV 0 hts (hs_gV (fun _ h => List.mem_cons_of_mem _ h) wq878 wq879 wq880 wq5 wq881) rfl rfl rfl (by decide +kernel) ⟨Nat.le_of_ble_eq_true rfl, Nat.le_of_ble_eq_true rfl⟩) (hs_preV (r := (RX12, TX12, 48)) hP hK h35 (by decide) rfl) rfl rfl hl.1 rfl (lv_room (Nat.le_of_ble_eq_true rfl)) dX12_step_84 ⟨(Nat.le_of_ble_eq_true rfl), (Nat.le_of_ble_eq_true rfl)⟩) hS (fun H locs hP hS => ?_)
        obtain ⟨h39, hf⟩ := hs_ck hf
        obtain ⟨r41, g40, h42, hf⟩ := hs_bd_some hf
        refine hs_calli (va_runV (As := [.int r37]) (rest := []) ⟨hx, hb, hml, hown, hts⟩ (ctX12_pays l B D E v0 r37 g36 _ h42) (cwV 1 hts (hs_gV (fun _ h => List.mem_cons_of_mem _ h) wq874 wq875 wq876 wq5 wq877) rfl rfl rfl (by decide +kernel) ⟨Nat.le_of_ble_eq_true rfl, Nat.le_of_ble_eq_true rfl⟩) (hs_preV (r := (RX12, TX12, 48)) hP hK h39 (by decide) rfl) rfl rfl hl.1 rfl (lv_room (Nat.le_of_ble_eq_true rfl)) dX12_step_87 ⟨(Nat.le_of_ble_eq_true rfl), (Nat.le_of_ble_eq_true rfl)⟩) hS (fun H locs hP hS => ?_)
        refine lv_if_eq (tgt := 108) hx hb dX12_step_90 (by decide) (fun hc => ?_) (fun hc => ?_)
        · replace hf := hs_t hf hc
          exact hs_vret hx hb hr hlocks hK hP hS hf dX12_step_108
        · replace hf := hs_f hf hc
          exact wX12_step_j93 hX hf hP hS (lv_sub hl [1] rfl)
  · replace hf := hs_t hf hc
    refine lv_aload_n hx hb dX12_step_13 rfl (lv_at hl 1 rfl) ?_
    refine lv_aload_n hx hb dX12_step_14 rfl (lv_at hl 1 rfl) ?_
    refine lv_iconst (v := 1) hx hb dX12_step_15 (by decide) ?_
    obtain ⟨h43, hf⟩ := hs_ck hf
    obtain ⟨r45, g44, h46, hf⟩ := hs_bd_some hf
    refine hs_calli (va_runV (As := [.int (1 : Int32)]) (rest := [.ref (B + v0)]) ⟨hx, hb, hml, hown, hts⟩ (ctX12_codeAt l B D E v0 (1 : Int32) g2 _ h46) (cwV 1 hts (hs_gV (fun _ h => List.mem_cons_of_mem _ h) wq870 wq871 wq872 wq5 wq873) rfl rfl rfl (by decide +kernel) ⟨Nat.le_of_ble_eq_true rfl, Nat.le_of_ble_eq_true rfl⟩) (hs_preV (r := (RX12, TX12, 48)) hP hK h43 (by decide) rfl) rfl rfl hl.1 rfl (lv_room (Nat.le_of_ble_eq_true rfl)) dX12_step_16 ⟨(Nat.le_of_ble_eq_true rfl), (Nat.le_of_ble_eq_true rfl)⟩) hS (fun H locs hP hS => ?_)
    refine lv_bipush (v := 24) hx hb dX12_step_19 (by decide) ?_
    refine lv_ishl hx hb dX12_step_21 ?_
    refine lv_aload_n hx hb dX12_step_22 rfl (lv_at hl 1 rfl) ?_
    refine lv_iconst (v := 2) hx hb dX12_step_23 (by decide) ?_
    obtain ⟨h47, hf⟩ := hs_ck hf
    obtain ⟨r49, g48, h50, hf⟩ := hs_bd_some hf
    refine hs_calli (va_runV (As := [.int (2 : Int32)]) (rest := [.int (r45 <<< ((24 : Int32) &&& 31)), .ref (B + v0)]) ⟨hx, hb, hml, hown, hts⟩ (ctX12_codeAt l B D E v0 (2 : Int32) g44 _ h50) (cwV 1 hts (hs_gV (fun _ h => List.mem_cons_of_mem _ h) wq870 wq871 wq872 wq5 wq873) rfl rfl rfl (by decide +kernel) ⟨Nat.le_of_ble_eq_true rfl, Nat.le_of_ble_eq_true rfl⟩) (hs_preV (r := (RX12, TX12, 48)) hP hK h47 (by decide) rfl) rfl rfl hl.1 rfl (lv_room (Nat.le_of_ble_eq_true rfl)) dX12_step_24 ⟨(Nat.le_of_ble_eq_true rfl), (Nat.le_of_ble_eq_true rfl)⟩) hS (fun H locs hP hS => ?_)
    refine lv_bipush (v := 16) hx hb dX12_step_27 (by decide) ?_
    refine lv_ishl hx hb dX12_step_29 ?_
    refine lv_ior hx hb dX12_step_30 ?_
    refine lv_aload_n hx hb dX12_step_31 rfl (lv_at hl 1 rfl) ?_
    refine lv_iconst (v := 3) hx hb dX12_step_32 (by decide) ?_
    obtain ⟨h51, hf⟩ := hs_ck hf
    obtain ⟨r53, g52, h54, hf⟩ := hs_bd_some hf
    refine hs_calli (va_runV (As := [.int (3 : Int32)]) (rest := [.int ((r45 <<< ((24 : Int32) &&& 31)) ||| (r49 <<< ((16 : Int32) &&& 31))), .ref (B + v0)]) ⟨hx, hb, hml, hown, hts⟩ (ctX12_codeAt l B D E v0 (3 : Int32) g48 _ h54) (cwV 1 hts (hs_gV (fun _ h => List.mem_cons_of_mem _ h) wq870 wq871 wq872 wq5 wq873) rfl rfl rfl (by decide +kernel) ⟨Nat.le_of_ble_eq_true rfl, Nat.le_of_ble_eq_true rfl⟩) (hs_preV (r := (RX12, TX12, 48)) hP hK h51 (by decide) rfl) rfl rfl hl.1 rfl (lv_room (Nat.le_of_ble_eq_true rfl)) dX12_step_33 ⟨(Nat.le_of_ble_eq_true rfl), (Nat.le_of_ble_eq_true rfl)⟩) hS (fun H locs hP hS => ?_)
    refine lv_bipush (v := 8) hx hb dX12_step_36 (by decide) ?_
    refine lv_ishl hx hb dX12_step_38 ?_
    refine lv_ior hx hb dX12_step_39 ?_
    refine lv_aload_n hx hb dX12_step_40 rfl (lv_at hl 1 rfl) ?_
    refine lv_iconst (v := 4) hx hb dX12_step_41 (by decide) ?_
    obtain ⟨h55, hf⟩ := hs_ck hf
    obtain ⟨r57, g56, h58, hf⟩ := hs_bd_some hf
    refine hs_calli (va_runV (As := [.int (4 : Int32)]) (rest := [.int (((r45 <<< ((24 : Int32) &&& 31)) ||| (r49 <<< ((16 : Int32) &&& 31))) ||| (r53 <<< ((8 : Int32) &&& 31))), .ref (B + v0)]) ⟨hx, hb, hml, hown, hts⟩ (ctX12_codeAt l B D E v0 (4 : Int32) g52 _ h58) (cwV 1 hts (hs_gV (fun _ h => List.mem_cons_of_mem _ h) wq870 wq871 wq872 wq5 wq873) rfl rfl rfl (by decide +kernel) ⟨Nat.le_of_ble_eq_true rfl, Nat.le_of_ble_eq_true rfl⟩) (hs_preV (r := (RX12, TX12, 48)) hP hK h55 (by decide) rfl) rfl rfl hl.1 rfl (lv_room (Nat.le_of_ble_eq_true rfl)) dX12_step_42 ⟨(Nat.le_of_ble_eq_true rfl), (Nat.le_of_ble_eq_true rfl)⟩) hS (fun H locs hP hS => ?_)
    refine lv_ior hx hb dX12_step_45 ?_
    obtain ⟨h59, hf⟩ := hs_ck hf
    obtain ⟨r61, g60, h62, hf⟩ := hs_bd_some hf
    refine hs_calli (va_runV (As := [.int ((((r45 <<< ((24 : Int32) &&& 31)) ||| (r49 <<< ((16 : Int32) &&& 31))) ||| (r53 <<< ((8 : Int32) &&& 31))) ||| r57)]) (rest := []) ⟨hx, hb, hml, hown, hts⟩ (ctX12_pays l B D E v0 ((((r45 <<< ((24 : Int32) &&& 31)) ||| (r49 <<< ((16 : Int32) &&& 31))) ||| (r53 <<< ((8 : Int32) &&& 31))) ||| r57) g56 _ h62) (cwV 1 hts (hs_gV (fun _ h => List.mem_cons_of_mem _ h) wq874 wq875 wq876 wq5 wq877) rfl rfl rfl (by decide +kernel) ⟨Nat.le_of_ble_eq_true rfl, Nat.le_of_ble_eq_true rfl⟩) (hs_preV (r := (RX12, TX12, 48)) hP hK h59 (by decide) rfl) rfl rfl hl.1 rfl (lv_room (Nat.le_of_ble_eq_true rfl)) dX12_step_46 ⟨(Nat.le_of_ble_eq_true rfl), (Nat.le_of_ble_eq_true rfl)⟩) hS (fun H locs hP hS => ?_)
    refine lv_if_eq (tgt := 67) hx hb dX12_step_49 (by decide) (fun hc => ?_) (fun hc => ?_)
    · replace hf := hs_t hf hc
      exact hs_vret hx hb hr hlocks hK hP hS hf dX12_step_67
    · replace hf := hs_f hf hc
      refine lv_aload_n hx hb dX12_step_52 rfl (lv_at hl 1 rfl) ?_
      obtain ⟨h63, hf⟩ := hs_ck hf
      obtain ⟨h64, hf⟩ := hs_ck hf
      refine hs_getr (C := RX12) (T := TX12) (N := 48) hx hb hts (fun w h => List.mem_cons_of_mem _ (inlX12 w h)) hown hK.1 hP h63 (by decide) rfl 42 (by decide) (hts _ (List.mem_cons_of_mem _ wq153)) (fun _ h => h) rfl h64 dX12_step_53 ?_
      refine lv_aload_n hx hb dX12_step_56 rfl (lv_at hl 1 rfl) ?_
      refine hs_geti (C := RX12) (T := TX12) (N := 48) hx hb hts (fun w h => List.mem_cons_of_mem _ (inlX12 w h)) hown hK.1 hP h63 (by decide) rfl 40 (by decide) (hts _ (List.mem_cons_of_mem _ wq859)) (fun _ h => h) rfl dX12_step_57 ?_
      refine lv_iconst (v := 1) hx hb dX12_step_60 (by decide) ?_
      refine lv_isub hx hb dX12_step_61 ?_
      refine lv_dup2_11 hx hb dX12_step_62 rfl rfl ?_
      obtain ⟨h65, hf⟩ := hs_ck hf
      obtain ⟨h66, hf⟩ := hs_ck hf
      refine hs_iald hx hb hK.1 hP h65 h66 dX12_step_63 ?_
      refine lv_iconst (v := 5) hx hb dX12_step_64 (by decide) ?_
      refine lv_iadd hx hb dX12_step_65 ?_
      refine hs_iast hx hb hK.1 hP hS h65 h66 dX12_step_66 (fun H locs hP hS => ?_)
      exact hs_vret hx hb hr hlocks hK hP hS hf dX12_step_67

theorem dX12_caught_0 : decode cX12_caught 0 = .ok (.aload_n 0, 1) := by decide +kernel
theorem dX12_caught_1 : decode cX12_caught 1 = .ok (.getfield 254, 3) := by decide +kernel
theorem dX12_caught_4 : decode cX12_caught 4 = .ok (.ifCond .le 168, 3) := by decide +kernel
theorem dX12_caught_7 : decode cX12_caught 7 = .ok (.aload_n 0, 1) := by decide +kernel
theorem dX12_caught_8 : decode cX12_caught 8 = .ok (.getfield 102, 3) := by decide +kernel
theorem dX12_caught_11 : decode cX12_caught 11 = .ok (.aload_n 0, 1) := by decide +kernel
theorem dX12_caught_12 : decode cX12_caught 12 = .ok (.getfield 254, 3) := by decide +kernel
theorem dX12_caught_15 : decode cX12_caught 15 = .ok (.iconst 1, 1) := by decide +kernel
theorem dX12_caught_16 : decode cX12_caught 16 = .ok (.isub, 1) := by decide +kernel
theorem dX12_caught_17 : decode cX12_caught 17 = .ok (.iaload, 1) := by decide +kernel
theorem dX12_caught_18 : decode cX12_caught 18 = .ok (.istore_n 1, 1) := by decide +kernel
theorem dX12_caught_19 : decode cX12_caught 19 = .ok (.aload_n 0, 1) := by decide +kernel
theorem dX12_caught_20 : decode cX12_caught 20 = .ok (.getfield 105, 3) := by decide +kernel
theorem dX12_caught_23 : decode cX12_caught 23 = .ok (.aload_n 0, 1) := by decide +kernel
theorem dX12_caught_24 : decode cX12_caught 24 = .ok (.getfield 254, 3) := by decide +kernel
theorem dX12_caught_27 : decode cX12_caught 27 = .ok (.iconst 1, 1) := by decide +kernel
theorem dX12_caught_28 : decode cX12_caught 28 = .ok (.isub, 1) := by decide +kernel
theorem dX12_caught_29 : decode cX12_caught 29 = .ok (.iaload, 1) := by decide +kernel
theorem dX12_caught_30 : decode cX12_caught 30 = .ok (.istore_n 2, 1) := by decide +kernel
theorem dX12_caught_31 : decode cX12_caught 31 = .ok (.iconst 0, 1) := by decide +kernel
theorem dX12_caught_32 : decode cX12_caught 32 = .ok (.istore_n 3, 1) := by decide +kernel
theorem dX12_caught_33 : decode cX12_caught 33 = .ok (.iload_n 3, 1) := by decide +kernel
theorem dX12_caught_34 : decode cX12_caught 34 = .ok (.aload_n 0, 1) := by decide +kernel
theorem dX12_caught_35 : decode cX12_caught 35 = .ok (.getfield 26, 3) := by decide +kernel
theorem dX12_caught_38 : decode cX12_caught 38 = .ok (.iload_n 1, 1) := by decide +kernel
theorem dX12_caught_39 : decode cX12_caught 39 = .ok (.iaload, 1) := by decide +kernel
theorem dX12_caught_40 : decode cX12_caught 40 = .ok (.if_icmp .ge 119, 3) := by decide +kernel
theorem dX12_caught_43 : decode cX12_caught 43 = .ok (.bipush 32, 2) := by decide +kernel
theorem dX12_caught_45 : decode cX12_caught 45 = .ok (.iload_n 1, 1) := by decide +kernel
theorem dX12_caught_46 : decode cX12_caught 46 = .ok (.imul, 1) := by decide +kernel
theorem dX12_caught_47 : decode cX12_caught 47 = .ok (.iconst 4, 1) := by decide +kernel
theorem dX12_caught_48 : decode cX12_caught 48 = .ok (.iload_n 3, 1) := by decide +kernel
theorem dX12_caught_49 : decode cX12_caught 49 = .ok (.imul, 1) := by decide +kernel
theorem dX12_caught_50 : decode cX12_caught 50 = .ok (.iadd, 1) := by decide +kernel
theorem dX12_caught_51 : decode cX12_caught 51 = .ok (.istore 4, 2) := by decide +kernel
theorem dX12_caught_53 : decode cX12_caught 53 = .ok (.aload_n 0, 1) := by decide +kernel
theorem dX12_caught_54 : decode cX12_caught 54 = .ok (.getfield 75, 3) := by decide +kernel
theorem dX12_caught_57 : decode cX12_caught 57 = .ok (.iload 4, 2) := by decide +kernel
theorem dX12_caught_59 : decode cX12_caught 59 = .ok (.iconst 3, 1) := by decide +kernel
theorem dX12_caught_60 : decode cX12_caught 60 = .ok (.iadd, 1) := by decide +kernel
theorem dX12_caught_61 : decode cX12_caught 61 = .ok (.iaload, 1) := by decide +kernel
theorem dX12_caught_62 : decode cX12_caught 62 = .ok (.istore 5, 2) := by decide +kernel
theorem dX12_caught_64 : decode cX12_caught 64 = .ok (.iload 5, 2) := by decide +kernel
theorem dX12_caught_66 : decode cX12_caught 66 = .ok (.ifCond .eq 12, 3) := by decide +kernel
theorem dX12_caught_69 : decode cX12_caught 69 = .ok (.iload 5, 2) := by decide +kernel
theorem dX12_caught_71 : decode cX12_caught 71 = .ok (.aload_n 0, 1) := by decide +kernel
theorem dX12_caught_72 : decode cX12_caught 72 = .ok (.getfield 267, 3) := by decide +kernel
theorem dX12_caught_75 : decode cX12_caught 75 = .ok (.if_icmp .ne 78, 3) := by decide +kernel
theorem dX12_caught_78 : decode cX12_caught 78 = .ok (.iload_n 2, 1) := by decide +kernel
theorem dX12_caught_79 : decode cX12_caught 79 = .ok (.aload_n 0, 1) := by decide +kernel
theorem dX12_caught_80 : decode cX12_caught 80 = .ok (.getfield 75, 3) := by decide +kernel
theorem dX12_caught_83 : decode cX12_caught 83 = .ok (.iload 4, 2) := by decide +kernel
theorem dX12_caught_85 : decode cX12_caught 85 = .ok (.iaload, 1) := by decide +kernel
theorem dX12_caught_86 : decode cX12_caught 86 = .ok (.if_icmp .lt 67, 3) := by decide +kernel
theorem dX12_caught_89 : decode cX12_caught 89 = .ok (.iload_n 2, 1) := by decide +kernel
theorem dX12_caught_90 : decode cX12_caught 90 = .ok (.aload_n 0, 1) := by decide +kernel
theorem dX12_caught_91 : decode cX12_caught 91 = .ok (.getfield 75, 3) := by decide +kernel
theorem dX12_caught_94 : decode cX12_caught 94 = .ok (.iload 4, 2) := by decide +kernel
theorem dX12_caught_96 : decode cX12_caught 96 = .ok (.iconst 1, 1) := by decide +kernel
theorem dX12_caught_97 : decode cX12_caught 97 = .ok (.iadd, 1) := by decide +kernel
theorem dX12_caught_98 : decode cX12_caught 98 = .ok (.iaload, 1) := by decide +kernel
theorem dX12_caught_99 : decode cX12_caught 99 = .ok (.if_icmp .ge 54, 3) := by decide +kernel
theorem dX12_caught_102 : decode cX12_caught 102 = .ok (.aload_n 0, 1) := by decide +kernel
theorem dX12_caught_103 : decode cX12_caught 103 = .ok (.getfield 111, 3) := by decide +kernel
theorem dX12_caught_106 : decode cX12_caught 106 = .ok (.bipush 24, 2) := by decide +kernel
theorem dX12_caught_108 : decode cX12_caught 108 = .ok (.aload_n 0, 1) := by decide +kernel
theorem dX12_caught_109 : decode cX12_caught 109 = .ok (.getfield 254, 3) := by decide +kernel
theorem dX12_caught_112 : decode cX12_caught 112 = .ok (.iconst 1, 1) := by decide +kernel
theorem dX12_caught_113 : decode cX12_caught 113 = .ok (.isub, 1) := by decide +kernel
theorem dX12_caught_114 : decode cX12_caught 114 = .ok (.imul, 1) := by decide +kernel
theorem dX12_caught_115 : decode cX12_caught 115 = .ok (.aload_n 0, 1) := by decide +kernel
theorem dX12_caught_116 : decode cX12_caught 116 = .ok (.getfield 267, 3) := by decide +kernel
theorem dX12_caught_119 : decode cX12_caught 119 = .ok (.iastore, 1) := by decide +kernel
theorem dX12_caught_120 : decode cX12_caught 120 = .ok (.aload_n 0, 1) := by decide +kernel
theorem dX12_caught_121 : decode cX12_caught 121 = .ok (.getfield 108, 3) := by decide +kernel
theorem dX12_caught_124 : decode cX12_caught 124 = .ok (.aload_n 0, 1) := by decide +kernel
theorem dX12_caught_125 : decode cX12_caught 125 = .ok (.getfield 254, 3) := by decide +kernel
theorem dX12_caught_128 : decode cX12_caught 128 = .ok (.iconst 1, 1) := by decide +kernel
theorem dX12_caught_129 : decode cX12_caught 129 = .ok (.isub, 1) := by decide +kernel
theorem dX12_caught_130 : decode cX12_caught 130 = .ok (.iconst 1, 1) := by decide +kernel
theorem dX12_caught_131 : decode cX12_caught 131 = .ok (.iastore, 1) := by decide +kernel
theorem dX12_caught_132 : decode cX12_caught 132 = .ok (.aload_n 0, 1) := by decide +kernel
theorem dX12_caught_133 : decode cX12_caught 133 = .ok (.getfield 105, 3) := by decide +kernel
theorem dX12_caught_136 : decode cX12_caught 136 = .ok (.aload_n 0, 1) := by decide +kernel
theorem dX12_caught_137 : decode cX12_caught 137 = .ok (.getfield 254, 3) := by decide +kernel
theorem dX12_caught_140 : decode cX12_caught 140 = .ok (.iconst 1, 1) := by decide +kernel
theorem dX12_caught_141 : decode cX12_caught 141 = .ok (.isub, 1) := by decide +kernel
theorem dX12_caught_142 : decode cX12_caught 142 = .ok (.aload_n 0, 1) := by decide +kernel
theorem dX12_caught_143 : decode cX12_caught 143 = .ok (.getfield 75, 3) := by decide +kernel
theorem dX12_caught_146 : decode cX12_caught 146 = .ok (.iload 4, 2) := by decide +kernel
theorem dX12_caught_148 : decode cX12_caught 148 = .ok (.iconst 2, 1) := by decide +kernel
theorem dX12_caught_149 : decode cX12_caught 149 = .ok (.iadd, 1) := by decide +kernel
theorem dX12_caught_150 : decode cX12_caught 150 = .ok (.iaload, 1) := by decide +kernel
theorem dX12_caught_151 : decode cX12_caught 151 = .ok (.iastore, 1) := by decide +kernel
theorem dX12_caught_152 : decode cX12_caught 152 = .ok (.return_, 1) := by decide +kernel
theorem dX12_caught_153 : decode cX12_caught 153 = .ok (.iinc 3 1, 3) := by decide +kernel
theorem dX12_caught_156 : decode cX12_caught 156 = .ok (.goto (-123), 3) := by decide +kernel
theorem dX12_caught_159 : decode cX12_caught 159 = .ok (.aload_n 0, 1) := by decide +kernel
theorem dX12_caught_160 : decode cX12_caught 160 = .ok (.dup, 1) := by decide +kernel
theorem dX12_caught_161 : decode cX12_caught 161 = .ok (.getfield 254, 3) := by decide +kernel
theorem dX12_caught_164 : decode cX12_caught 164 = .ok (.iconst 1, 1) := by decide +kernel
theorem dX12_caught_165 : decode cX12_caught 165 = .ok (.isub, 1) := by decide +kernel
theorem dX12_caught_166 : decode cX12_caught 166 = .ok (.putfield 254, 3) := by decide +kernel
theorem dX12_caught_169 : decode cX12_caught 169 = .ok (.goto (-169), 3) := by decide +kernel
theorem dX12_caught_172 : decode cX12_caught 172 = .ok (.return_, 1) := by decide +kernel
abbrev wcX12_caught : List Cond := .code yX12_caught cX12_caught 6 none :: wsL_law
def jX12_caught_153 (rec : Int32 → hs_S → Option (Nat × Int32 × hs_S)) (v0 : Nat) (v1 : Int32) (v2 : Int32) (v3 : Int32) (g : hs_S) : Option (Nat × Int32 × hs_S) :=
  rec (v3 + (1 : Int32)) g
def jX12_caught_78 (rec : Int32 → hs_S → Option (Nat × Int32 × hs_S)) (v0 : Nat) (v1 : Int32) (v2 : Int32) (v3 : Int32) (v4 : Int32) (g : hs_S) : Option (Nat × Int32 × hs_S) :=
  if hs_kd g v0 = 10 then
  if ¬ (hs_R g v0 25) = 0 then
  if hs_kd g ((hs_R g v0 25) - 1) = 100 then
  if hs_in v4 (hs_ln g ((hs_R g v0 25) - 1)) = true then
  if v2 < (hs_I g ((hs_R g v0 25) - 1) v4.toNatClampNeg) then (
    jX12_caught_153 rec v0 v1 v2 v3 g
  ) else (
    if hs_in (v4 + (1 : Int32)) (hs_ln g ((hs_R g v0 25) - 1)) = true then
    if (hs_I g ((hs_R g v0 25) - 1) (v4 + (1 : Int32)).toNatClampNeg) ≤ v2 then (
      jX12_caught_153 rec v0 v1 v2 v3 g
    ) else (
      some (1, v4, g)
    )
    else none
  )
  else none else none else none else none
def lX12_caught_33 : Nat → Nat → Int32 → Int32 → Int32 → hs_S → Option (Nat × Int32 × hs_S)
  | 0, _, _, _, _, _ => none
  | n + 1, v0, v1, v2, v3, g =>
    if hs_kd g v0 = 10 then
    if ¬ (hs_R g v0 8) = 0 then
    if hs_kd g ((hs_R g v0 8) - 1) = 100 then
    if hs_in v1 (hs_ln g ((hs_R g v0 8) - 1)) = true then
    if (hs_I g ((hs_R g v0 8) - 1) v1.toNatClampNeg) ≤ v3 then (
      some (0, 0, g)
    ) else (
      if ¬ (hs_R g v0 25) = 0 then
      if hs_kd g ((hs_R g v0 25) - 1) = 100 then
      if hs_in ((((32 : Int32) * v1) + ((4 : Int32) * v3)) + (3 : Int32)) (hs_ln g ((hs_R g v0 25) - 1)) = true then
      if (hs_I g ((hs_R g v0 25) - 1) ((((32 : Int32) * v1) + ((4 : Int32) * v3)) + (3 : Int32)).toNatClampNeg) = 0 then (
        jX12_caught_78 (fun y0 g => lX12_caught_33 n v0 v1 v2 y0 g) v0 v1 v2 v3 (((32 : Int32) * v1) + ((4 : Int32) * v3)) g
      ) else (
        if (hs_I g ((hs_R g v0 25) - 1) ((((32 : Int32) * v1) + ((4 : Int32) * v3)) + (3 : Int32)).toNatClampNeg) = (hs_I g v0 47) then (
          jX12_caught_78 (fun y0 g => lX12_caught_33 n v0 v1 v2 y0 g) v0 v1 v2 v3 (((32 : Int32) * v1) + ((4 : Int32) * v3)) g
        ) else (
          jX12_caught_153 (fun y0 g => lX12_caught_33 n v0 v1 v2 y0 g) v0 v1 v2 v3 g
        )
      )
      else none else none else none
    )
    else none else none else none else none
theorem lX12_caught_33_s (n : Nat) (v0 : Nat) (v1 : Int32) (v2 : Int32) (v3 : Int32) (g : hs_S) : lX12_caught_33 (n + 1) v0 v1 v2 v3 g =
    if hs_kd g v0 = 10 then
    if ¬ (hs_R g v0 8) = 0 then
    if hs_kd g ((hs_R g v0 8) - 1) = 100 then
    if hs_in v1 (hs_ln g ((hs_R g v0 8) - 1)) = true then
    if (hs_I g ((hs_R g v0 8) - 1) v1.toNatClampNeg) ≤ v3 then (
      some (0, 0, g)
    ) else (
      if ¬ (hs_R g v0 25) = 0 then
      if hs_kd g ((hs_R g v0 25) - 1) = 100 then
      if hs_in ((((32 : Int32) * v1) + ((4 : Int32) * v3)) + (3 : Int32)) (hs_ln g ((hs_R g v0 25) - 1)) = true then
      if (hs_I g ((hs_R g v0 25) - 1) ((((32 : Int32) * v1) + ((4 : Int32) * v3)) + (3 : Int32)).toNatClampNeg) = 0 then (
        jX12_caught_78 (fun y0 g => lX12_caught_33 n v0 v1 v2 y0 g) v0 v1 v2 v3 (((32 : Int32) * v1) + ((4 : Int32) * v3)) g
      ) else (
        if (hs_I g ((hs_R g v0 25) - 1) ((((32 : Int32) * v1) + ((4 : Int32) * v3)) + (3 : Int32)).toNatClampNeg) = (hs_I g v0 47) then (
          jX12_caught_78 (fun y0 g => lX12_caught_33 n v0 v1 v2 y0 g) v0 v1 v2 v3 (((32 : Int32) * v1) + ((4 : Int32) * v3)) g
        ) else (
          jX12_caught_153 (fun y0 g => lX12_caught_33 n v0 v1 v2 y0 g) v0 v1 v2 v3 g
        )
      )
      else none else none else none
    )
    else none else none else none else none := rfl
def lX12_caught_0 : Nat → Nat → hs_S → Option (Nat × Int32 × hs_S)
  | 0, _, _ => none
  | n + 1, v0, g =>
    if hs_kd g v0 = 10 then
    if (hs_I g v0 40) ≤ 0 then (
      some (0, 0, g)
    ) else (
      if ¬ (hs_R g v0 41) = 0 then
      if hs_kd g ((hs_R g v0 41) - 1) = 100 then
      if hs_in ((hs_I g v0 40) - (1 : Int32)) (hs_ln g ((hs_R g v0 41) - 1)) = true then
      if ¬ (hs_R g v0 42) = 0 then
      if hs_kd g ((hs_R g v0 42) - 1) = 100 then
      if hs_in ((hs_I g v0 40) - (1 : Int32)) (hs_ln g ((hs_R g v0 42) - 1)) = true then
      hs_b3 (lX12_caught_33 hs_N v0 (hs_I g ((hs_R g v0 41) - 1) ((hs_I g v0 40) - (1 : Int32)).toNatClampNeg) (hs_I g ((hs_R g v0 42) - 1) ((hs_I g v0 40) - (1 : Int32)).toNatClampNeg) (0 : Int32) g) fun k21 x20 g22 =>
      if k21 = 0 then (
        if hs_kd g22 v0 = 10 then
        lX12_caught_0 n v0 (hs_wI g22 v0 40 ((hs_I g22 v0 40) - (1 : Int32)))
        else none
      ) else (
        some (1, x20, g22)
      )
      else none else none else none else none else none else none
    )
    else none
theorem lX12_caught_0_s (n : Nat) (v0 : Nat) (g : hs_S) : lX12_caught_0 (n + 1) v0 g =
    if hs_kd g v0 = 10 then
    if (hs_I g v0 40) ≤ 0 then (
      some (0, 0, g)
    ) else (
      if ¬ (hs_R g v0 41) = 0 then
      if hs_kd g ((hs_R g v0 41) - 1) = 100 then
      if hs_in ((hs_I g v0 40) - (1 : Int32)) (hs_ln g ((hs_R g v0 41) - 1)) = true then
      if ¬ (hs_R g v0 42) = 0 then
      if hs_kd g ((hs_R g v0 42) - 1) = 100 then
      if hs_in ((hs_I g v0 40) - (1 : Int32)) (hs_ln g ((hs_R g v0 42) - 1)) = true then
      hs_b3 (lX12_caught_33 hs_N v0 (hs_I g ((hs_R g v0 41) - 1) ((hs_I g v0 40) - (1 : Int32)).toNatClampNeg) (hs_I g ((hs_R g v0 42) - 1) ((hs_I g v0 40) - (1 : Int32)).toNatClampNeg) (0 : Int32) g) fun k21 x20 g22 =>
      if k21 = 0 then (
        if hs_kd g22 v0 = 10 then
        lX12_caught_0 n v0 (hs_wI g22 v0 40 ((hs_I g22 v0 40) - (1 : Int32)))
        else none
      ) else (
        some (1, x20, g22)
      )
      else none else none else none else none else none else none
    )
    else none := rfl
def fX12_caught (v0 : Nat) (g : hs_S) : Option (hs_S) :=
  hs_b3 (lX12_caught_0 hs_N v0 g) fun k26 x25 g27 =>
  if k26 = 0 then (
    some g27
  ) else (
    if hs_kd g27 v0 = 10 then
    if ¬ (hs_R g27 v0 44) = 0 then
    if hs_kd g27 ((hs_R g27 v0 44) - 1) = 100 then
    if hs_in ((24 : Int32) * ((hs_I g27 v0 40) - (1 : Int32))) (hs_ln g27 ((hs_R g27 v0 44) - 1)) = true then
    hs_bv (some (hs_wI g27 ((hs_R g27 v0 44) - 1) ((24 : Int32) * ((hs_I g27 v0 40) - (1 : Int32))).toNatClampNeg (hs_I g27 v0 47))) fun g33 =>
    if ¬ (hs_R g33 v0 43) = 0 then
    if hs_kd g33 ((hs_R g33 v0 43) - 1) = 100 then
    if hs_in ((hs_I g33 v0 40) - (1 : Int32)) (hs_ln g33 ((hs_R g33 v0 43) - 1)) = true then
    hs_bv (some (hs_wI g33 ((hs_R g33 v0 43) - 1) ((hs_I g33 v0 40) - (1 : Int32)).toNatClampNeg (1 : Int32))) fun g41 =>
    if ¬ (hs_R g41 v0 42) = 0 then
    if ¬ (hs_R g41 v0 25) = 0 then
    if hs_kd g41 ((hs_R g41 v0 25) - 1) = 100 then
    if hs_in (x25 + (2 : Int32)) (hs_ln g41 ((hs_R g41 v0 25) - 1)) = true then
    if hs_kd g41 ((hs_R g41 v0 42) - 1) = 100 then
    if hs_in ((hs_I g41 v0 40) - (1 : Int32)) (hs_ln g41 ((hs_R g41 v0 42) - 1)) = true then
    some (hs_wI g41 ((hs_R g41 v0 42) - 1) ((hs_I g41 v0 40) - (1 : Int32)).toNatClampNeg (hs_I g41 ((hs_R g41 v0 25) - 1) (x25 + (2 : Int32)).toNatClampNeg))
    else none else none else none else none else none else none else none else none else none else none else none else none else none
  )
abbrev rmX12_caught : Room := { frames := 0, cells := 0, slots := 0, locals := 0 }
set_option maxHeartbeats 4000000 in
set_option maxRecDepth 100000 in
theorem wX12_caught_j153 {p : Program} {l : Launch} {e : Env} {s : State} {m : MethodId} {args : Array Value} {below : List Frame} {meth : Method} {c : Code} {B : Nat} {D : va_G} {E : Nat → ClassId} (hX : hs_cx cX12_caught none 6 RX12 wcX12_caught p s m args meth c D E) {Q : State → Prop} {o : Nat × Int32 × hs_S} {rec : Int32 → hs_S → Option (Nat × Int32 × hs_S)} {v0 : Nat} {v1 : Int32} {v2 : Int32} {v3 : Int32}  (hrec : ∀ (y0 : Int32) (g : hs_S) (H : Heap) (locs : List Loc) (ls : Array Slot), rec y0 g = some o → hs_P B D E g H → hs_Sx B s.heap H locs → lv_has ls 6 [(0, .ref (B + v0)), (1, .int v1), (2, .int v2), (3, .int y0)] → W p l e rmX12_caught s m args below meth c H locs 0 0 Q (F0 m 33 ls [])) (hex0 : o.1 = 0 → ∀ (H : Heap) (locs : List Loc) (ls : Array Slot), hs_P B D E (o.2.2) H → hs_Sx B s.heap H locs → lv_has ls 6 [(0, .ref (B + v0))] → W p l e rmX12_caught s m args below meth c H locs 0 0 Q (F0 m 159 ls [])) (hex1 : o.1 = 1 → ∀ (H : Heap) (locs : List Loc) (ls : Array Slot), hs_P B D E (o.2.2) H → hs_Sx B s.heap H locs → lv_has ls 6 [(0, .ref (B + v0)), (4, .int (o.2.1))] → W p l e rmX12_caught s m args below meth c H locs 0 0 Q (F0 m 102 ls [])) {g : hs_S} {H : Heap} {locs : List Loc} {ls : Array Slot} (hf : jX12_caught_153 rec v0 v1 v2 v3 g = some o) (hP : hs_P B D E g H) (hS : hs_Sx B s.heap H locs) (hl : lv_has ls 6 [(0, .ref (B + v0)), (1, .int v1), (2, .int v2), (3, .int v3)]) : W p l e rmX12_caught s m args below meth c H locs 0 0 Q (F0 m 153 ls []) := by
  obtain ⟨hx, hb, hr, hml, hown, hts, hlocks, hK⟩ := id hX
  unfold jX12_caught_153 at hf
  refine lv_iinc (v := (v3 + (1 : Int32))) (lv' := [(3, .int (v3 + (1 : Int32))), (0, .ref (B + v0)), (1, .int v1), (2, .int v2)]) hx hb dX12_caught_153 hl (k := 3) rfl (by rfl) (by decide) rfl (fun ls hl => ?_)
  refine lv_goto (tgt := 33) hx hb dX12_caught_156 (by decide) ?_
  exact hrec _ _ _ _ _ hf hP hS (lv_sub hl [1, 2, 3, 0] rfl)

set_option maxHeartbeats 4000000 in
set_option maxRecDepth 100000 in
theorem wX12_caught_j78 {p : Program} {l : Launch} {e : Env} {s : State} {m : MethodId} {args : Array Value} {below : List Frame} {meth : Method} {c : Code} {B : Nat} {D : va_G} {E : Nat → ClassId} (hX : hs_cx cX12_caught none 6 RX12 wcX12_caught p s m args meth c D E) {Q : State → Prop} {o : Nat × Int32 × hs_S} {rec : Int32 → hs_S → Option (Nat × Int32 × hs_S)} {v0 : Nat} {v1 : Int32} {v2 : Int32} {v3 : Int32} {v4 : Int32}  (hrec : ∀ (y0 : Int32) (g : hs_S) (H : Heap) (locs : List Loc) (ls : Array Slot), rec y0 g = some o → hs_P B D E g H → hs_Sx B s.heap H locs → lv_has ls 6 [(0, .ref (B + v0)), (1, .int v1), (2, .int v2), (3, .int y0)] → W p l e rmX12_caught s m args below meth c H locs 0 0 Q (F0 m 33 ls [])) (hex0 : o.1 = 0 → ∀ (H : Heap) (locs : List Loc) (ls : Array Slot), hs_P B D E (o.2.2) H → hs_Sx B s.heap H locs → lv_has ls 6 [(0, .ref (B + v0))] → W p l e rmX12_caught s m args below meth c H locs 0 0 Q (F0 m 159 ls [])) (hex1 : o.1 = 1 → ∀ (H : Heap) (locs : List Loc) (ls : Array Slot), hs_P B D E (o.2.2) H → hs_Sx B s.heap H locs → lv_has ls 6 [(0, .ref (B + v0)), (4, .int (o.2.1))] → W p l e rmX12_caught s m args below meth c H locs 0 0 Q (F0 m 102 ls [])) {g : hs_S} {H : Heap} {locs : List Loc} {ls : Array Slot} (hf : jX12_caught_78 rec v0 v1 v2 v3 v4 g = some o) (hP : hs_P B D E g H) (hS : hs_Sx B s.heap H locs) (hl : lv_has ls 6 [(0, .ref (B + v0)), (1, .int v1), (2, .int v2), (3, .int v3), (4, .int v4)]) : W p l e rmX12_caught s m args below meth c H locs 0 0 Q (F0 m 78 ls []) := by
  obtain ⟨hx, hb, hr, hml, hown, hts, hlocks, hK⟩ := id hX
  unfold jX12_caught_78 at hf
  refine lv_iload_n hx hb dX12_caught_78 rfl (lv_at hl 2 rfl) ?_
  refine lv_aload_n hx hb dX12_caught_79 rfl (lv_at hl 0 rfl) ?_
  obtain ⟨h15, hf⟩ := hs_ck hf
  obtain ⟨h16, hf⟩ := hs_ck hf
  refine hs_getr (C := RX12) (T := TX12) (N := 48) hx hb hts (fun w h => List.mem_cons_of_mem _ (inlX12 w h)) hown hK.1 hP h15 (by decide) rfl 25 (by decide) (hts _ (List.mem_cons_of_mem _ wq143)) (fun _ h => h) rfl h16 dX12_caught_80 ?_
  refine lv_iload hx hb dX12_caught_83 (lv_at hl 4 rfl) ?_
  obtain ⟨h17, hf⟩ := hs_ck hf
  obtain ⟨h18, hf⟩ := hs_ck hf
  refine hs_iald hx hb hK.1 hP h17 h18 dX12_caught_85 ?_
  refine lv_icmp_lt (tgt := 153) hx hb dX12_caught_86 (by decide) (fun hc => ?_) (fun hc => ?_)
  · replace hf := hs_t hf hc
    exact wX12_caught_j153 hX hrec hex0 hex1 hf hP hS (lv_sub hl [0, 1, 2, 3] rfl)
  · replace hf := hs_f hf hc
    refine lv_iload_n hx hb dX12_caught_89 rfl (lv_at hl 2 rfl) ?_
    refine lv_aload_n hx hb dX12_caught_90 rfl (lv_at hl 0 rfl) ?_
    refine hs_getr (C := RX12) (T := TX12) (N := 48) hx hb hts (fun w h => List.mem_cons_of_mem _ (inlX12 w h)) hown hK.1 hP h15 (by decide) rfl 25 (by decide) (hts _ (List.mem_cons_of_mem _ wq143)) (fun _ h => h) rfl h16 dX12_caught_91 ?_
    refine lv_iload hx hb dX12_caught_94 (lv_at hl 4 rfl) ?_
    refine lv_iconst (v := 1) hx hb dX12_caught_96 (by decide) ?_
    refine lv_iadd hx hb dX12_caught_97 ?_
    obtain ⟨h19, hf⟩ := hs_ck hf
    refine hs_iald hx hb hK.1 hP h17 h19 dX12_caught_98 ?_
    refine lv_icmp_ge (tgt := 153) hx hb dX12_caught_99 (by decide) (fun hc => ?_) (fun hc => ?_)
    · replace hf := hs_t hf hc
      exact wX12_caught_j153 hX hrec hex0 hex1 hf hP hS (lv_sub hl [0, 1, 2, 3] rfl)
    · replace hf := hs_f hf hc
      obtain rfl := Option.some.inj hf
      exact hex1 rfl _ _ _ hP hS (lv_sub hl [0, 4] rfl)

set_option maxHeartbeats 4000000 in
set_option maxRecDepth 100000 in
theorem wX12_caught_33 {p : Program} {l : Launch} {e : Env} {s : State} {m : MethodId} {args : Array Value} {below : List Frame} {meth : Method} {c : Code} {B : Nat} {D : va_G} {E : Nat → ClassId} (hX : hs_cx cX12_caught none 6 RX12 wcX12_caught p s m args meth c D E) {Q : State → Prop} {o : Nat × Int32 × hs_S} {v0 : Nat} {v1 : Int32} {v2 : Int32} (hex0 : o.1 = 0 → ∀ (H : Heap) (locs : List Loc) (ls : Array Slot), hs_P B D E (o.2.2) H → hs_Sx B s.heap H locs → lv_has ls 6 [(0, .ref (B + v0))] → W p l e rmX12_caught s m args below meth c H locs 0 0 Q (F0 m 159 ls [])) (hex1 : o.1 = 1 → ∀ (H : Heap) (locs : List Loc) (ls : Array Slot), hs_P B D E (o.2.2) H → hs_Sx B s.heap H locs → lv_has ls 6 [(0, .ref (B + v0)), (4, .int (o.2.1))] → W p l e rmX12_caught s m args below meth c H locs 0 0 Q (F0 m 102 ls [])) : ∀ (n : Nat) (v3 : Int32) (g : hs_S), lX12_caught_33 n v0 v1 v2 v3 g = some o → ∀ (H : Heap) (locs : List Loc) (ls : Array Slot), hs_P B D E g H → hs_Sx B s.heap H locs → lv_has ls 6 [(0, .ref (B + v0)), (1, .int v1), (2, .int v2), (3, .int v3)] → W p l e rmX12_caught s m args below meth c H locs 0 0 Q (F0 m 33 ls []) := by
  obtain ⟨hx, hb, hr, hml, hown, hts, hlocks, hK⟩ := id hX
  intro n
  induction n with
  | zero =>
    intro v3 g hf
    cases hf
  | succ n ih =>
    intro v3 g hf H locs ls hP hS hl
    replace hf := (lX12_caught_33_s n v0 v1 v2 v3 g).symm.trans hf
    refine lv_iload_n hx hb dX12_caught_33 rfl (lv_at hl 3 rfl) ?_
    refine lv_aload_n hx hb dX12_caught_34 rfl (lv_at hl 0 rfl) ?_
    obtain ⟨h8, hf⟩ := hs_ck hf
    obtain ⟨h9, hf⟩ := hs_ck hf
    refine hs_getr (C := RX12) (T := TX12) (N := 48) hx hb hts (fun w h => List.mem_cons_of_mem _ (inlX12 w h)) hown hK.1 hP h8 (by decide) rfl 8 (by decide) (hts _ (List.mem_cons_of_mem _ wq126)) (fun _ h => h) rfl h9 dX12_caught_35 ?_
    refine lv_iload_n hx hb dX12_caught_38 rfl (lv_at hl 1 rfl) ?_
    obtain ⟨h10, hf⟩ := hs_ck hf
    obtain ⟨h11, hf⟩ := hs_ck hf
    refine hs_iald hx hb hK.1 hP h10 h11 dX12_caught_39 ?_
    refine lv_icmp_ge (tgt := 159) hx hb dX12_caught_40 (by decide) (fun hc => ?_) (fun hc => ?_)
    · replace hf := hs_t hf hc
      obtain rfl := Option.some.inj hf
      exact hex0 rfl _ _ _ hP hS (lv_sub hl [0] rfl)
    · replace hf := hs_f hf hc
      refine lv_bipush (v := 32) hx hb dX12_caught_43 (by decide) ?_
      refine lv_iload_n hx hb dX12_caught_45 rfl (lv_at hl 1 rfl) ?_
      refine lv_imul hx hb dX12_caught_46 ?_
      refine lv_iconst (v := 4) hx hb dX12_caught_47 (by decide) ?_
      refine lv_iload_n hx hb dX12_caught_48 rfl (lv_at hl 3 rfl) ?_
      refine lv_imul hx hb dX12_caught_49 ?_
      refine lv_iadd hx hb dX12_caught_50 ?_
      refine lv_istore (lv' := [(4, .int (((32 : Int32) * v1) + ((4 : Int32) * v3))), (0, .ref (B + v0)), (1, .int v1), (2, .int v2), (3, .int v3)]) hx hb dX12_caught_51 hl (by decide) rfl (fun ls hl => ?_)
      refine lv_aload_n hx hb dX12_caught_53 rfl (lv_at hl 1 rfl) ?_
      obtain ⟨h12, hf⟩ := hs_ck hf
      refine hs_getr (C := RX12) (T := TX12) (N := 48) hx hb hts (fun w h => List.mem_cons_of_mem _ (inlX12 w h)) hown hK.1 hP h8 (by decide) rfl 25 (by decide) (hts _ (List.mem_cons_of_mem _ wq143)) (fun _ h => h) rfl h12 dX12_caught_54 ?_
      refine lv_iload hx hb dX12_caught_57 (lv_at hl 0 rfl) ?_
      refine lv_iconst (v := 3) hx hb dX12_caught_59 (by decide) ?_
      refine lv_iadd hx hb dX12_caught_60 ?_
      obtain ⟨h13, hf⟩ := hs_ck hf
      obtain ⟨h14, hf⟩ := hs_ck hf
      refine hs_iald hx hb hK.1 hP h13 h14 dX12_caught_61 ?_
      refine lv_istore (lv' := [(5, .int (hs_I g ((hs_R g v0 25) - 1) ((((32 : Int32) * v1) + ((4 : Int32) * v3)) + (3 : Int32)).toNatClampNeg)), (4, .int (((32 : Int32) * v1) + ((4 : Int32) * v3))), (0, .ref (B + v0)), (1, .int v1), (2, .int v2), (3, .int v3)]) hx hb dX12_caught_62 hl (by decide) rfl (fun ls hl => ?_)
      refine lv_iload hx hb dX12_caught_64 (lv_at hl 0 rfl) ?_
      refine lv_if_eq (tgt := 78) hx hb dX12_caught_66 (by decide) (fun hc => ?_) (fun hc => ?_)
      · replace hf := hs_t hf hc
        exact wX12_caught_j78 hX (fun z0 g H locs ls hf hP hS hl => ih z0 g hf H locs ls hP hS hl) hex0 hex1 hf hP hS (lv_sub hl [2, 3, 4, 5, 1] rfl)
      · replace hf := hs_f hf hc
        refine lv_iload hx hb dX12_caught_69 (lv_at hl 0 rfl) ?_
        refine lv_aload_n hx hb dX12_caught_71 rfl (lv_at hl 2 rfl) ?_
        refine hs_geti (C := RX12) (T := TX12) (N := 48) hx hb hts (fun w h => List.mem_cons_of_mem _ (inlX12 w h)) hown hK.1 hP h8 (by decide) rfl 47 (by decide) (hts _ (List.mem_cons_of_mem _ wq861)) (fun _ h => h) rfl dX12_caught_72 ?_
        refine lv_icmp_ne (tgt := 153) hx hb dX12_caught_75 (by decide) (fun hc => ?_) (fun hc => ?_)
        · replace hf := hs_f hf hc
          exact wX12_caught_j153 hX (fun z0 g H locs ls hf hP hS hl => ih z0 g hf H locs ls hP hS hl) hex0 hex1 hf hP hS (lv_sub hl [2, 3, 4, 5] rfl)
        · replace hf := hs_t hf hc
          exact wX12_caught_j78 hX (fun z0 g H locs ls hf hP hS hl => ih z0 g hf H locs ls hP hS hl) hex0 hex1 hf hP hS (lv_sub hl [2, 3, 4, 5, 1] rfl)

set_option maxHeartbeats 4000000 in
set_option maxRecDepth 100000 in
theorem wX12_caught_0 {p : Program} {l : Launch} {e : Env} {s : State} {m : MethodId} {args : Array Value} {below : List Frame} {meth : Method} {c : Code} {B : Nat} {D : va_G} {E : Nat → ClassId} (hX : hs_cx cX12_caught none 6 RX12 wcX12_caught p s m args meth c D E) {Q : State → Prop} {o : Nat × Int32 × hs_S} {v0 : Nat} (hex0 : o.1 = 0 → ∀ (H : Heap) (locs : List Loc) (ls : Array Slot), hs_P B D E (o.2.2) H → hs_Sx B s.heap H locs → lv_has ls 6 [] → W p l e rmX12_caught s m args below meth c H locs 0 0 Q (F0 m 172 ls [])) (hex1 : o.1 = 1 → ∀ (H : Heap) (locs : List Loc) (ls : Array Slot), hs_P B D E (o.2.2) H → hs_Sx B s.heap H locs → lv_has ls 6 [(0, .ref (B + v0)), (4, .int (o.2.1))] → W p l e rmX12_caught s m args below meth c H locs 0 0 Q (F0 m 102 ls [])) : ∀ (n : Nat)  (g : hs_S), lX12_caught_0 n v0 g = some o → ∀ (H : Heap) (locs : List Loc) (ls : Array Slot), hs_P B D E g H → hs_Sx B s.heap H locs → lv_has ls 6 [(0, .ref (B + v0))] → W p l e rmX12_caught s m args below meth c H locs 0 0 Q (F0 m 0 ls []) := by
  obtain ⟨hx, hb, hr, hml, hown, hts, hlocks, hK⟩ := id hX
  intro n
  induction n with
  | zero =>
    intro g hf
    cases hf
  | succ n ih =>
    intro g hf H locs ls hP hS hl
    replace hf := (lX12_caught_0_s n v0 g).symm.trans hf
    refine lv_aload_n hx hb dX12_caught_0 rfl (lv_at hl 0 rfl) ?_
    obtain ⟨h1, hf⟩ := hs_ck hf
    refine hs_geti (C := RX12) (T := TX12) (N := 48) hx hb hts (fun w h => List.mem_cons_of_mem _ (inlX12 w h)) hown hK.1 hP h1 (by decide) rfl 40 (by decide) (hts _ (List.mem_cons_of_mem _ wq859)) (fun _ h => h) rfl dX12_caught_1 ?_
    refine lv_if_le (tgt := 172) hx hb dX12_caught_4 (by decide) (fun hc => ?_) (fun hc => ?_)
    · replace hf := hs_t hf hc
      obtain rfl := Option.some.inj hf
      exact hex0 rfl _ _ _ hP hS (lv_sub hl [] rfl)
    · replace hf := hs_f hf hc
      refine lv_aload_n hx hb dX12_caught_7 rfl (lv_at hl 0 rfl) ?_
      obtain ⟨h2, hf⟩ := hs_ck hf
      refine hs_getr (C := RX12) (T := TX12) (N := 48) hx hb hts (fun w h => List.mem_cons_of_mem _ (inlX12 w h)) hown hK.1 hP h1 (by decide) rfl 41 (by decide) (hts _ (List.mem_cons_of_mem _ wq152)) (fun _ h => h) rfl h2 dX12_caught_8 ?_
      refine lv_aload_n hx hb dX12_caught_11 rfl (lv_at hl 0 rfl) ?_
      refine hs_geti (C := RX12) (T := TX12) (N := 48) hx hb hts (fun w h => List.mem_cons_of_mem _ (inlX12 w h)) hown hK.1 hP h1 (by decide) rfl 40 (by decide) (hts _ (List.mem_cons_of_mem _ wq859)) (fun _ h => h) rfl dX12_caught_12 ?_
      refine lv_iconst (v := 1) hx hb dX12_caught_15 (by decide) ?_
      refine lv_isub hx hb dX12_caught_16 ?_
      obtain ⟨h3, hf⟩ := hs_ck hf
      obtain ⟨h4, hf⟩ := hs_ck hf
      refine hs_iald hx hb hK.1 hP h3 h4 dX12_caught_17 ?_
      refine lv_istore_n (lv' := [(1, .int (hs_I g ((hs_R g v0 41) - 1) ((hs_I g v0 40) - (1 : Int32)).toNatClampNeg)), (0, .ref (B + v0))]) hx hb dX12_caught_18 rfl hl (by decide) rfl (fun ls hl => ?_)
      refine lv_aload_n hx hb dX12_caught_19 rfl (lv_at hl 1 rfl) ?_
      obtain ⟨h5, hf⟩ := hs_ck hf
      refine hs_getr (C := RX12) (T := TX12) (N := 48) hx hb hts (fun w h => List.mem_cons_of_mem _ (inlX12 w h)) hown hK.1 hP h1 (by decide) rfl 42 (by decide) (hts _ (List.mem_cons_of_mem _ wq153)) (fun _ h => h) rfl h5 dX12_caught_20 ?_
      refine lv_aload_n hx hb dX12_caught_23 rfl (lv_at hl 1 rfl) ?_
      refine hs_geti (C := RX12) (T := TX12) (N := 48) hx hb hts (fun w h => List.mem_cons_of_mem _ (inlX12 w h)) hown hK.1 hP h1 (by decide) rfl 40 (by decide) (hts _ (List.mem_cons_of_mem _ wq859)) (fun _ h => h) rfl dX12_caught_24 ?_
      refine lv_iconst (v := 1) hx hb dX12_caught_27 (by decide) ?_
      refine lv_isub hx hb dX12_caught_28 ?_
      obtain ⟨h6, hf⟩ := hs_ck hf
      obtain ⟨h7, hf⟩ := hs_ck hf
      refine hs_iald hx hb hK.1 hP h6 h7 dX12_caught_29 ?_
      refine lv_istore_n (lv' := [(2, .int (hs_I g ((hs_R g v0 42) - 1) ((hs_I g v0 40) - (1 : Int32)).toNatClampNeg)), (1, .int (hs_I g ((hs_R g v0 41) - 1) ((hs_I g v0 40) - (1 : Int32)).toNatClampNeg)), (0, .ref (B + v0))]) hx hb dX12_caught_30 rfl hl (by decide) rfl (fun ls hl => ?_)
      refine lv_iconst (v := 0) hx hb dX12_caught_31 (by decide) ?_
      refine lv_istore_n (lv' := [(3, .int (0 : Int32)), (2, .int (hs_I g ((hs_R g v0 42) - 1) ((hs_I g v0 40) - (1 : Int32)).toNatClampNeg)), (1, .int (hs_I g ((hs_R g v0 41) - 1) ((hs_I g v0 40) - (1 : Int32)).toNatClampNeg)), (0, .ref (B + v0))]) hx hb dX12_caught_32 rfl hl (by decide) rfl (fun ls hl => ?_)
      obtain ⟨k21, x20, g22, h23, hf⟩ := hs_b3_some hf
      refine wX12_caught_33 hX (fun hlab H locs ls hP hS hl => ?_) (fun hlab H locs ls hP hS hl => ?_) hs_N _ _ h23 _ _ _ hP hS (lv_sub hl [3, 2, 1, 0] rfl)
      · replace hlab : k21 = 0 := hlab
        replace hf := hs_t hf hlab
        refine lv_aload_n hx hb dX12_caught_159 rfl (lv_at hl 0 rfl) ?_
        refine lv_dup hx hb dX12_caught_160 rfl ?_
        obtain ⟨h24, hf⟩ := hs_ck hf
        refine hs_geti (C := RX12) (T := TX12) (N := 48) hx hb hts (fun w h => List.mem_cons_of_mem _ (inlX12 w h)) hown hK.1 hP h24 (by decide) rfl 40 (by decide) (hts _ (List.mem_cons_of_mem _ wq859)) (fun _ h => h) rfl dX12_caught_161 ?_
        refine lv_iconst (v := 1) hx hb dX12_caught_164 (by decide) ?_
        refine lv_isub hx hb dX12_caught_165 ?_
        refine hs_puti (C := RX12) (T := TX12) (N := 48) hx hb hts (fun w h => List.mem_cons_of_mem _ (inlX12 w h)) tyX12 tyX12_ok nmX12 hown hK.1 hP hS h24 (by decide) rfl 40 (by decide) (hts _ (List.mem_cons_of_mem _ wq859)) (fun _ h => h) (Or.inl rfl) rfl rfl rfl dX12_caught_166 (fun H locs hP hS => ?_)
        refine lv_goto (tgt := 0) hx hb dX12_caught_169 (by decide) ?_
        exact ih _ hf _ _ _ hP hS (lv_sub hl [0] rfl)
      · replace hlab : k21 = 1 := hlab
        replace hf := hs_f hf (by rw [hlab]; decide)
        obtain rfl := Option.some.inj hf
        exact hex1 rfl _ _ _ hP hS (lv_sub hl [0, 1] rfl)

set_option maxHeartbeats 4000000 in
set_option maxRecDepth 100000 in
theorem ctX12_caught (l : Launch) (B : Nat) (D : va_G) (E : Nat → ClassId) (v0 : Nat) (g : hs_S) (o : hs_S) (hf : fX12_caught v0 g = some o) : Met l yX12_caught wcX12_caught rmX12_caught (hs_Pc B D E g [.ref (B + v0)]) (hs_Qv B D E o) (0) (0) (hs_F B) := by
  refine Met.ofW (cc := cX12_caught) (maxL := 6) (ret := none) (by decide) rfl ?_
  intro p e s m args below meth c s₁ Bd hml hv
  obtain ⟨rfl, hP, hK⟩ := hv
  have hx := Bd.exec
  have hb := Bd.bytes
  have hr := Bd.returns
  have hts := atoms_spec (ws := wcX12_caught) Bd.pre
  have hown : s.vm.findClass RX12 = some m.cls := findClass_of_methodNamed Bd.named
  have hlocks := Bd.notSynchronized
  have hS : hs_Sx B s.heap s.heap [] := va_S.rf
  have hX : hs_cx cX12_caught none 6 RX12 wcX12_caught p s m (List.toArray [.ref (B + v0)]) meth c D E := ⟨hx, hb, hr, hml, hown, hts, hlocks, hK⟩
  have hl := lv_entry ([.ref (B + v0)]) (n := 6) (Nat.le_of_ble_eq_true rfl)
  rw [lg_entry_eq]
  generalize (lg_sl ([.ref (B + v0)]) ++ List.replicate (6 - (lg_sl ([.ref (B + v0)])).length) Slot.unset).toArray = ls at hl ⊢
  have hl : lv_has ls 6 [(0, .ref (B + v0))] := hl
  have hP : hs_P B D E g s.heap := hP
  unfold fX12_caught at hf
  obtain ⟨k26, x25, g27, h28, hf⟩ := hs_b3_some hf
  refine wX12_caught_0 hX (fun hlab H locs ls hP hS hl => ?_) (fun hlab H locs ls hP hS hl => ?_) hs_N _ h28 _ _ _ hP hS (lv_sub hl [0] rfl)
  · replace hlab : k26 = 0 := hlab
    replace hf := hs_t hf hlab
    exact hs_vret hx hb hr hlocks hK hP hS hf dX12_caught_172
  · replace hlab : k26 = 1 := hlab
    replace hf := hs_f hf (by rw [hlab]; decide)
    refine lv_aload_n hx hb dX12_caught_102 rfl (lv_at hl 0 rfl) ?_
    obtain ⟨h29, hf⟩ := hs_ck hf
    obtain ⟨h30, hf⟩ := hs_ck hf
    refine hs_getr (C := RX12) (T := TX12) (N := 48) hx hb hts (fun w h => List.mem_cons_of_mem _ (inlX12 w h)) hown hK.1 hP h29 (by decide) rfl 44 (by decide) (hts _ (List.mem_cons_of_mem _ wq155)) (fun _ h => h) rfl h30 dX12_caught_103 ?_
    refine lv_bipush (v := 24) hx hb dX12_caught_106 (by decide) ?_
    refine lv_aload_n hx hb dX12_caught_108 rfl (lv_at hl 0 rfl) ?_
    refine hs_geti (C := RX12) (T := TX12) (N := 48) hx hb hts (fun w h => List.mem_cons_of_mem _ (inlX12 w h)) hown hK.1 hP h29 (by decide) rfl 40 (by decide) (hts _ (List.mem_cons_of_mem _ wq859)) (fun _ h => h) rfl dX12_caught_109 ?_
    refine lv_iconst (v := 1) hx hb dX12_caught_112 (by decide) ?_
    refine lv_isub hx hb dX12_caught_113 ?_
    refine lv_imul hx hb dX12_caught_114 ?_
    refine lv_aload_n hx hb dX12_caught_115 rfl (lv_at hl 0 rfl) ?_
    refine hs_geti (C := RX12) (T := TX12) (N := 48) hx hb hts (fun w h => List.mem_cons_of_mem _ (inlX12 w h)) hown hK.1 hP h29 (by decide) rfl 47 (by decide) (hts _ (List.mem_cons_of_mem _ wq861)) (fun _ h => h) rfl dX12_caught_116 ?_
    obtain ⟨h31, hf⟩ := hs_ck hf
    obtain ⟨h32, hf⟩ := hs_ck hf
    refine hs_iast hx hb hK.1 hP hS h31 h32 dX12_caught_119 (fun H locs hP hS => ?_)
    obtain ⟨g33, e34, hf⟩ := hs_bv_some hf
    replace e34 := Option.some.inj e34
    rw [e34] at hP
    have h35 : hs_kd g33 v0 = 10 := by rw [← e34]; exact h29
    have h36 : hs_kd g33 ((hs_R g27 v0 44) - 1) = 100 := by rw [← e34]; exact h31
    have h37 : hs_in ((24 : Int32) * ((hs_I g27 v0 40) - (1 : Int32))) (hs_ln g33 ((hs_R g27 v0 44) - 1)) = true := by rw [← e34]; exact h32
    refine lv_aload_n hx hb dX12_caught_120 rfl (lv_at hl 0 rfl) ?_
    obtain ⟨h38, hf⟩ := hs_ck hf
    refine hs_getr (C := RX12) (T := TX12) (N := 48) hx hb hts (fun w h => List.mem_cons_of_mem _ (inlX12 w h)) hown hK.1 hP h35 (by decide) rfl 43 (by decide) (hts _ (List.mem_cons_of_mem _ wq154)) (fun _ h => h) rfl h38 dX12_caught_121 ?_
    refine lv_aload_n hx hb dX12_caught_124 rfl (lv_at hl 0 rfl) ?_
    refine hs_geti (C := RX12) (T := TX12) (N := 48) hx hb hts (fun w h => List.mem_cons_of_mem _ (inlX12 w h)) hown hK.1 hP h35 (by decide) rfl 40 (by decide) (hts _ (List.mem_cons_of_mem _ wq859)) (fun _ h => h) rfl dX12_caught_125 ?_
    refine lv_iconst (v := 1) hx hb dX12_caught_128 (by decide) ?_
    refine lv_isub hx hb dX12_caught_129 ?_
    refine lv_iconst (v := 1) hx hb dX12_caught_130 (by decide) ?_
    obtain ⟨h39, hf⟩ := hs_ck hf
    obtain ⟨h40, hf⟩ := hs_ck hf
    refine hs_iast hx hb hK.1 hP hS h39 h40 dX12_caught_131 (fun H locs hP hS => ?_)
    obtain ⟨g41, e42, hf⟩ := hs_bv_some hf
    replace e42 := Option.some.inj e42
    rw [e42] at hP
    have h43 : hs_kd g41 v0 = 10 := by rw [← e42]; exact h35
    have h44 : hs_kd g41 ((hs_R g27 v0 44) - 1) = 100 := by rw [← e42]; exact h36
    have h45 : hs_in ((24 : Int32) * ((hs_I g27 v0 40) - (1 : Int32))) (hs_ln g41 ((hs_R g27 v0 44) - 1)) = true := by rw [← e42]; exact h37
    have h46 : hs_kd g41 ((hs_R g33 v0 43) - 1) = 100 := by rw [← e42]; exact h39
    have h47 : hs_in ((hs_I g33 v0 40) - (1 : Int32)) (hs_ln g41 ((hs_R g33 v0 43) - 1)) = true := by rw [← e42]; exact h40
    refine lv_aload_n hx hb dX12_caught_132 rfl (lv_at hl 0 rfl) ?_
    obtain ⟨h48, hf⟩ := hs_ck hf
    refine hs_getr (C := RX12) (T := TX12) (N := 48) hx hb hts (fun w h => List.mem_cons_of_mem _ (inlX12 w h)) hown hK.1 hP h43 (by decide) rfl 42 (by decide) (hts _ (List.mem_cons_of_mem _ wq153)) (fun _ h => h) rfl h48 dX12_caught_133 ?_
    refine lv_aload_n hx hb dX12_caught_136 rfl (lv_at hl 0 rfl) ?_
    refine hs_geti (C := RX12) (T := TX12) (N := 48) hx hb hts (fun w h => List.mem_cons_of_mem _ (inlX12 w h)) hown hK.1 hP h43 (by decide) rfl 40 (by decide) (hts _ (List.mem_cons_of_mem _ wq859)) (fun _ h => h) rfl dX12_caught_137 ?_
    refine lv_iconst (v := 1) hx hb dX12_caught_140 (by decide) ?_
    refine lv_isub hx hb dX12_caught_141 ?_
    refine lv_aload_n hx hb dX12_caught_142 rfl (lv_at hl 0 rfl) ?_
    obtain ⟨h49, hf⟩ := hs_ck hf
    refine hs_getr (C := RX12) (T := TX12) (N := 48) hx hb hts (fun w h => List.mem_cons_of_mem _ (inlX12 w h)) hown hK.1 hP h43 (by decide) rfl 25 (by decide) (hts _ (List.mem_cons_of_mem _ wq143)) (fun _ h => h) rfl h49 dX12_caught_143 ?_
    refine lv_iload hx hb dX12_caught_146 (lv_at hl 1 rfl) ?_
    refine lv_iconst (v := 2) hx hb dX12_caught_148 (by decide) ?_
    refine lv_iadd hx hb dX12_caught_149 ?_
    obtain ⟨h50, hf⟩ := hs_ck hf
    obtain ⟨h51, hf⟩ := hs_ck hf
    refine hs_iald hx hb hK.1 hP h50 h51 dX12_caught_150 ?_
    obtain ⟨h52, hf⟩ := hs_ck hf
    obtain ⟨h53, hf⟩ := hs_ck hf
    refine hs_iast hx hb hK.1 hP hS h52 h53 dX12_caught_151 (fun H locs hP hS => ?_)
    exact hs_vret hx hb hr hlocks hK hP hS hf dX12_caught_152

theorem dX12_run_0 : decode cX12_run 0 = .ok (.aload_n 0, 1) := by decide +kernel
theorem dX12_run_1 : decode cX12_run 1 = .ok (.getfield 195, 3) := by decide +kernel
theorem dX12_run_4 : decode cX12_run 4 = .ok (.ifCond .ne 6, 3) := by decide +kernel
theorem dX12_run_7 : decode cX12_run 7 = .ok (.bipush (-2), 2) := by decide +kernel
theorem dX12_run_9 : decode cX12_run 9 = .ok (.ireturn, 1) := by decide +kernel
theorem dX12_run_10 : decode cX12_run 10 = .ok (.iload_n 1, 1) := by decide +kernel
theorem dX12_run_11 : decode cX12_run 11 = .ok (.ifCond .lt 24, 3) := by decide +kernel
theorem dX12_run_14 : decode cX12_run 14 = .ok (.iload_n 1, 1) := by decide +kernel
theorem dX12_run_15 : decode cX12_run 15 = .ok (.aload_n 0, 1) := by decide +kernel
theorem dX12_run_16 : decode cX12_run 16 = .ok (.getfield 188, 3) := by decide +kernel
theorem dX12_run_19 : decode cX12_run 19 = .ok (.if_icmp .ge 16, 3) := by decide +kernel
theorem dX12_run_22 : decode cX12_run 22 = .ok (.iload 4, 2) := by decide +kernel
theorem dX12_run_24 : decode cX12_run 24 = .ok (.ifCond .lt 11, 3) := by decide +kernel
theorem dX12_run_27 : decode cX12_run 27 = .ok (.iload 4, 2) := by decide +kernel
theorem dX12_run_29 : decode cX12_run 29 = .ok (.ldc_w 257, 3) := by decide +kernel
theorem dX12_run_32 : decode cX12_run 32 = .ok (.if_icmp .le 6, 3) := by decide +kernel
theorem dX12_run_35 : decode cX12_run 35 = .ok (.bipush (-3), 2) := by decide +kernel
theorem dX12_run_37 : decode cX12_run 37 = .ok (.ireturn, 1) := by decide +kernel
theorem dX12_run_38 : decode cX12_run 38 = .ok (.iconst 0, 1) := by decide +kernel
theorem dX12_run_39 : decode cX12_run 39 = .ok (.istore 5, 2) := by decide +kernel
theorem dX12_run_41 : decode cX12_run 41 = .ok (.iload 5, 2) := by decide +kernel
theorem dX12_run_43 : decode cX12_run 43 = .ok (.iconst 4, 1) := by decide +kernel
theorem dX12_run_44 : decode cX12_run 44 = .ok (.if_icmp .ge 17, 3) := by decide +kernel
theorem dX12_run_47 : decode cX12_run 47 = .ok (.aload_n 0, 1) := by decide +kernel
theorem dX12_run_48 : decode cX12_run 48 = .ok (.getfield 96, 3) := by decide +kernel
theorem dX12_run_51 : decode cX12_run 51 = .ok (.iload 5, 2) := by decide +kernel
theorem dX12_run_53 : decode cX12_run 53 = .ok (.iconst 0, 1) := by decide +kernel
theorem dX12_run_54 : decode cX12_run 54 = .ok (.iastore, 1) := by decide +kernel
theorem dX12_run_55 : decode cX12_run 55 = .ok (.iinc 5 1, 3) := by decide +kernel
theorem dX12_run_58 : decode cX12_run 58 = .ok (.goto (-17), 3) := by decide +kernel
theorem dX12_run_61 : decode cX12_run 61 = .ok (.aload_n 0, 1) := by decide +kernel
theorem dX12_run_62 : decode cX12_run 62 = .ok (.iconst 0, 1) := by decide +kernel
theorem dX12_run_63 : decode cX12_run 63 = .ok (.putfield 258, 3) := by decide +kernel
theorem dX12_run_66 : decode cX12_run 66 = .ok (.aload_n 0, 1) := by decide +kernel
theorem dX12_run_67 : decode cX12_run 67 = .ok (.iconst 0, 1) := by decide +kernel
theorem dX12_run_68 : decode cX12_run 68 = .ok (.putfield 251, 3) := by decide +kernel
theorem dX12_run_71 : decode cX12_run 71 = .ok (.aload_n 0, 1) := by decide +kernel
theorem dX12_run_72 : decode cX12_run 72 = .ok (.iconst 0, 1) := by decide +kernel
theorem dX12_run_73 : decode cX12_run 73 = .ok (.putfield 261, 3) := by decide +kernel
theorem dX12_run_76 : decode cX12_run 76 = .ok (.aload_n 0, 1) := by decide +kernel
theorem dX12_run_77 : decode cX12_run 77 = .ok (.iload 4, 2) := by decide +kernel
theorem dX12_run_79 : decode cX12_run 79 = .ok (.putfield 245, 3) := by decide +kernel
theorem dX12_run_82 : decode cX12_run 82 = .ok (.aload_n 0, 1) := by decide +kernel
theorem dX12_run_83 : decode cX12_run 83 = .ok (.iconst 0, 1) := by decide +kernel
theorem dX12_run_84 : decode cX12_run 84 = .ok (.putfield 254, 3) := by decide +kernel
theorem dX12_run_87 : decode cX12_run 87 = .ok (.aload_n 0, 1) := by decide +kernel
theorem dX12_run_88 : decode cX12_run 88 = .ok (.iconst 0, 1) := by decide +kernel
theorem dX12_run_89 : decode cX12_run 89 = .ok (.putfield 248, 3) := by decide +kernel
theorem dX12_run_92 : decode cX12_run 92 = .ok (.aload_n 0, 1) := by decide +kernel
theorem dX12_run_93 : decode cX12_run 93 = .ok (.iload_n 1, 1) := by decide +kernel
theorem dX12_run_94 : decode cX12_run 94 = .ok (.invokevirtual 264, 3) := by decide +kernel
theorem dX12_run_97 : decode cX12_run 97 = .ok (.aload_n 0, 1) := by decide +kernel
theorem dX12_run_98 : decode cX12_run 98 = .ok (.getfield 17, 3) := by decide +kernel
theorem dX12_run_101 : decode cX12_run 101 = .ok (.iload_n 1, 1) := by decide +kernel
theorem dX12_run_102 : decode cX12_run 102 = .ok (.iaload, 1) := by decide +kernel
theorem dX12_run_103 : decode cX12_run 103 = .ok (.ifCond .le 10, 3) := by decide +kernel
theorem dX12_run_106 : decode cX12_run 106 = .ok (.aload_n 0, 1) := by decide +kernel
theorem dX12_run_107 : decode cX12_run 107 = .ok (.getfield 114, 3) := by decide +kernel
theorem dX12_run_110 : decode cX12_run 110 = .ok (.iconst 0, 1) := by decide +kernel
theorem dX12_run_111 : decode cX12_run 111 = .ok (.iload_n 2, 1) := by decide +kernel
theorem dX12_run_112 : decode cX12_run 112 = .ok (.iastore, 1) := by decide +kernel
theorem dX12_run_113 : decode cX12_run 113 = .ok (.aload_n 0, 1) := by decide +kernel
theorem dX12_run_114 : decode cX12_run 114 = .ok (.getfield 17, 3) := by decide +kernel
theorem dX12_run_117 : decode cX12_run 117 = .ok (.iload_n 1, 1) := by decide +kernel
theorem dX12_run_118 : decode cX12_run 118 = .ok (.iaload, 1) := by decide +kernel
theorem dX12_run_119 : decode cX12_run 119 = .ok (.iconst 1, 1) := by decide +kernel
theorem dX12_run_120 : decode cX12_run 120 = .ok (.if_icmp .le 10, 3) := by decide +kernel
theorem dX12_run_123 : decode cX12_run 123 = .ok (.aload_n 0, 1) := by decide +kernel
theorem dX12_run_124 : decode cX12_run 124 = .ok (.getfield 114, 3) := by decide +kernel
theorem dX12_run_127 : decode cX12_run 127 = .ok (.iconst 1, 1) := by decide +kernel
theorem dX12_run_128 : decode cX12_run 128 = .ok (.iload_n 3, 1) := by decide +kernel
theorem dX12_run_129 : decode cX12_run 129 = .ok (.iastore, 1) := by decide +kernel
theorem dX12_run_130 : decode cX12_run 130 = .ok (.aload_n 0, 1) := by decide +kernel
theorem dX12_run_131 : decode cX12_run 131 = .ok (.getfield 254, 3) := by decide +kernel
theorem dX12_run_134 : decode cX12_run 134 = .ok (.ifCond .le 47, 3) := by decide +kernel
theorem dX12_run_137 : decode cX12_run 137 = .ok (.aload_n 0, 1) := by decide +kernel
theorem dX12_run_138 : decode cX12_run 138 = .ok (.getfield 248, 3) := by decide +kernel
theorem dX12_run_141 : decode cX12_run 141 = .ok (.ifCond .ne 40, 3) := by decide +kernel
theorem dX12_run_144 : decode cX12_run 144 = .ok (.aload_n 0, 1) := by decide +kernel
theorem dX12_run_145 : decode cX12_run 145 = .ok (.iconst 0, 1) := by decide +kernel
theorem dX12_run_146 : decode cX12_run 146 = .ok (.putfield 267, 3) := by decide +kernel
theorem dX12_run_149 : decode cX12_run 149 = .ok (.aload_n 0, 1) := by decide +kernel
theorem dX12_run_150 : decode cX12_run 150 = .ok (.invokevirtual 270, 3) := by decide +kernel
theorem dX12_run_153 : decode cX12_run 153 = .ok (.aload_n 0, 1) := by decide +kernel
theorem dX12_run_154 : decode cX12_run 154 = .ok (.getfield 267, 3) := by decide +kernel
theorem dX12_run_157 : decode cX12_run 157 = .ok (.ifCond .le (-27), 3) := by decide +kernel
theorem dX12_run_160 : decode cX12_run 160 = .ok (.aload_n 0, 1) := by decide +kernel
theorem dX12_run_161 : decode cX12_run 161 = .ok (.invokevirtual 273, 3) := by decide +kernel
theorem dX12_run_164 : decode cX12_run 164 = .ok (.aload_n 0, 1) := by decide +kernel
theorem dX12_run_165 : decode cX12_run 165 = .ok (.getfield 254, 3) := by decide +kernel
theorem dX12_run_168 : decode cX12_run 168 = .ok (.ifCond .ne (-38), 3) := by decide +kernel
theorem dX12_run_171 : decode cX12_run 171 = .ok (.aload_n 0, 1) := by decide +kernel
theorem dX12_run_172 : decode cX12_run 172 = .ok (.aload_n 0, 1) := by decide +kernel
theorem dX12_run_173 : decode cX12_run 173 = .ok (.getfield 267, 3) := by decide +kernel
theorem dX12_run_176 : decode cX12_run 176 = .ok (.putfield 258, 3) := by decide +kernel
theorem dX12_run_179 : decode cX12_run 179 = .ok (.iconst 2, 1) := by decide +kernel
theorem dX12_run_180 : decode cX12_run 180 = .ok (.ireturn, 1) := by decide +kernel
theorem dX12_run_181 : decode cX12_run 181 = .ok (.aload_n 0, 1) := by decide +kernel
theorem dX12_run_182 : decode cX12_run 182 = .ok (.getfield 248, 3) := by decide +kernel
theorem dX12_run_185 : decode cX12_run 185 = .ok (.ifCond .eq 10, 3) := by decide +kernel
theorem dX12_run_188 : decode cX12_run 188 = .ok (.aload_n 0, 1) := by decide +kernel
theorem dX12_run_189 : decode cX12_run 189 = .ok (.iconst 0, 1) := by decide +kernel
theorem dX12_run_190 : decode cX12_run 190 = .ok (.putfield 258, 3) := by decide +kernel
theorem dX12_run_193 : decode cX12_run 193 = .ok (.iconst 1, 1) := by decide +kernel
theorem dX12_run_194 : decode cX12_run 194 = .ok (.ireturn, 1) := by decide +kernel
theorem dX12_run_195 : decode cX12_run 195 = .ok (.iconst 0, 1) := by decide +kernel
theorem dX12_run_196 : decode cX12_run 196 = .ok (.ireturn, 1) := by decide +kernel
abbrev wcX12_run : List Cond := .code yX12_run cX12_run 6 (some .int) :: wsL_law
def lX12_run_41 : Nat → Nat → Int32 → Int32 → Int32 → Int32 → Int32 → hs_S → Option (hs_S)
  | 0, _, _, _, _, _, _, _ => none
  | n + 1, v0, v1, v2, v3, v4, v5, g =>
    if (4 : Int32) ≤ v5 then (
      some g
    ) else (
      if hs_kd g v0 = 10 then
      if ¬ (hs_R g v0 34) = 0 then
      if hs_kd g ((hs_R g v0 34) - 1) = 100 then
      if hs_in v5 (hs_ln g ((hs_R g v0 34) - 1)) = true then
      lX12_run_41 n v0 v1 v2 v3 v4 (v5 + (1 : Int32)) (hs_wI g ((hs_R g v0 34) - 1) v5.toNatClampNeg (0 : Int32))
      else none else none else none else none
    )
theorem lX12_run_41_s (n : Nat) (v0 : Nat) (v1 : Int32) (v2 : Int32) (v3 : Int32) (v4 : Int32) (v5 : Int32) (g : hs_S) : lX12_run_41 (n + 1) v0 v1 v2 v3 v4 v5 g =
    if (4 : Int32) ≤ v5 then (
      some g
    ) else (
      if hs_kd g v0 = 10 then
      if ¬ (hs_R g v0 34) = 0 then
      if hs_kd g ((hs_R g v0 34) - 1) = 100 then
      if hs_in v5 (hs_ln g ((hs_R g v0 34) - 1)) = true then
      lX12_run_41 n v0 v1 v2 v3 v4 (v5 + (1 : Int32)) (hs_wI g ((hs_R g v0 34) - 1) v5.toNatClampNeg (0 : Int32))
      else none else none else none else none
    ) := rfl
def lX12_run_130 : Nat → Nat → hs_S → Option (Nat × hs_S)
  | 0, _, _ => none
  | n + 1, v0, g =>
    if hs_kd g v0 = 10 then
    if (hs_I g v0 40) ≤ 0 then (
      some (0, g)
    ) else (
      if (hs_I g v0 46) = 0 then (
        hs_bv (fX12_step v0 (hs_wI g v0 47 (0 : Int32))) fun g25 =>
        if hs_kd g25 v0 = 10 then
        if (hs_I g25 v0 47) ≤ 0 then (
          lX12_run_130 n v0 g25
        ) else (
          hs_bv (fX12_caught v0 g25) fun g29 =>
          if hs_kd g29 v0 = 10 then
          if (hs_I g29 v0 40) = 0 then (
            some (1, g29)
          ) else (
            lX12_run_130 n v0 g29
          )
          else none
        )
        else none
      ) else (
        some (0, g)
      )
    )
    else none
theorem lX12_run_130_s (n : Nat) (v0 : Nat) (g : hs_S) : lX12_run_130 (n + 1) v0 g =
    if hs_kd g v0 = 10 then
    if (hs_I g v0 40) ≤ 0 then (
      some (0, g)
    ) else (
      if (hs_I g v0 46) = 0 then (
        hs_bv (fX12_step v0 (hs_wI g v0 47 (0 : Int32))) fun g25 =>
        if hs_kd g25 v0 = 10 then
        if (hs_I g25 v0 47) ≤ 0 then (
          lX12_run_130 n v0 g25
        ) else (
          hs_bv (fX12_caught v0 g25) fun g29 =>
          if hs_kd g29 v0 = 10 then
          if (hs_I g29 v0 40) = 0 then (
            some (1, g29)
          ) else (
            lX12_run_130 n v0 g29
          )
          else none
        )
        else none
      ) else (
        some (0, g)
      )
    )
    else none := rfl
def jX12_run_181 (v0 : Nat) (g : hs_S) : Option (Int32 × hs_S) :=
  if hs_kd g v0 = 10 then
  if (hs_I g v0 46) = 0 then (
    some ((0 : Int32), g)
  ) else (
    some ((1 : Int32), (hs_wI g v0 36 (0 : Int32)))
  )
  else none
def jX12_run_113 (v0 : Nat) (v1 : Int32) (v3 : Int32) (g : hs_S) : Option (Int32 × hs_S) :=
  if hs_kd g v0 = 10 then
  if ¬ (hs_R g v0 5) = 0 then
  if hs_kd g ((hs_R g v0 5) - 1) = 100 then
  if hs_in v1 (hs_ln g ((hs_R g v0 5) - 1)) = true then
  if (hs_I g ((hs_R g v0 5) - 1) v1.toNatClampNeg) ≤ (1 : Int32) then (
    hs_bd (lX12_run_130 hs_N v0 g) fun k33 g34 =>
    if k33 = 0 then (
      jX12_run_181 v0 g34
    ) else (
      if hs_kd g34 v0 = 10 then
      some ((2 : Int32), (hs_wI g34 v0 36 (hs_I g34 v0 47)))
      else none
    )
  ) else (
    if ¬ (hs_R g v0 45) = 0 then
    if hs_kd g ((hs_R g v0 45) - 1) = 100 then
    if hs_in (1 : Int32) (hs_ln g ((hs_R g v0 45) - 1)) = true then
    hs_bd (lX12_run_130 hs_N v0 (hs_wI g ((hs_R g v0 45) - 1) (1 : Int32).toNatClampNeg v3)) fun k41 g42 =>
    if k41 = 0 then (
      jX12_run_181 v0 g42
    ) else (
      if hs_kd g42 v0 = 10 then
      some ((2 : Int32), (hs_wI g42 v0 36 (hs_I g42 v0 47)))
      else none
    )
    else none else none else none
  )
  else none else none else none else none
def fX12_run (v0 : Nat) (v1 : Int32) (v2 : Int32) (v3 : Int32) (v4 : Int32) (g : hs_S) : Option (Int32 × hs_S) :=
  if hs_kd g v0 = 10 then
  if (hs_I g v0 22) = 0 then (
    some ((-2 : Int32), g)
  ) else (
    if v1 < 0 then (
      some ((-3 : Int32), g)
    ) else (
      if (hs_I g v0 4) ≤ v1 then (
        some ((-3 : Int32), g)
      ) else (
        if v4 < 0 then (
          some ((-3 : Int32), g)
        ) else (
          if v4 ≤ (100000 : Int32) then (
            hs_bv (lX12_run_41 hs_N v0 v1 v2 v3 v4 (0 : Int32) g) fun g7 =>
            if hs_kd g7 v0 = 10 then
            hs_bv (some (hs_wI (hs_wI (hs_wI (hs_wI g7 v0 36 (0 : Int32)) v0 37 (0 : Int32)) v0 38 (0 : Int32)) v0 39 v4)) fun g10 =>
            hs_bv (fX12_enter v0 v1 (hs_wI (hs_wI g10 v0 40 (0 : Int32)) v0 46 (0 : Int32))) fun g13 =>
            if hs_kd g13 v0 = 10 then
            if ¬ (hs_R g13 v0 5) = 0 then
            if hs_kd g13 ((hs_R g13 v0 5) - 1) = 100 then
            if hs_in v1 (hs_ln g13 ((hs_R g13 v0 5) - 1)) = true then
            if (hs_I g13 ((hs_R g13 v0 5) - 1) v1.toNatClampNeg) ≤ 0 then (
              jX12_run_113 v0 v1 v3 g13
            ) else (
              if ¬ (hs_R g13 v0 45) = 0 then
              if hs_kd g13 ((hs_R g13 v0 45) - 1) = 100 then
              if hs_in (0 : Int32) (hs_ln g13 ((hs_R g13 v0 45) - 1)) = true then
              jX12_run_113 v0 v1 v3 (hs_wI g13 ((hs_R g13 v0 45) - 1) (0 : Int32).toNatClampNeg v2)
              else none else none else none
            )
            else none else none else none else none else none
          ) else (
            some ((-3 : Int32), g)
          )
        )
      )
    )
  )
  else none
abbrev rmX12_run : Room := { frames := 4, cells := 0, slots := 0, locals := 87 }
set_option maxHeartbeats 4000000 in
set_option maxRecDepth 100000 in
theorem wX12_run_41 {p : Program} {l : Launch} {e : Env} {s : State} {m : MethodId} {args : Array Value} {below : List Frame} {meth : Method} {c : Code} {B : Nat} {D : va_G} {E : Nat → ClassId} (hX : hs_cx cX12_run (some .int) 6 RX12 wcX12_run p s m args meth c D E) {Q : State → Prop} {o : hs_S} {v0 : Nat} {v1 : Int32} {v2 : Int32} {v3 : Int32} {v4 : Int32} (hex0 : ∀ (H : Heap) (locs : List Loc) (ls : Array Slot), hs_P B D E (o) H → hs_Sx B s.heap H locs → lv_has ls 6 [(0, .ref (B + v0)), (1, .int v1), (2, .int v2), (3, .int v3), (4, .int v4)] → W p l e rmX12_run s m args below meth c H locs 0 0 Q (F0 m 61 ls [])) : ∀ (n : Nat) (v5 : Int32) (g : hs_S), lX12_run_41 n v0 v1 v2 v3 v4 v5 g = some o → ∀ (H : Heap) (locs : List Loc) (ls : Array Slot), hs_P B D E g H → hs_Sx B s.heap H locs → lv_has ls 6 [(0, .ref (B + v0)), (1, .int v1), (2, .int v2), (3, .int v3), (4, .int v4), (5, .int v5)] → W p l e rmX12_run s m args below meth c H locs 0 0 Q (F0 m 41 ls []) := by
  obtain ⟨hx, hb, hr, hml, hown, hts, hlocks, hK⟩ := id hX
  intro n
  induction n with
  | zero =>
    intro v5 g hf
    cases hf
  | succ n ih =>
    intro v5 g hf H locs ls hP hS hl
    replace hf := (lX12_run_41_s n v0 v1 v2 v3 v4 v5 g).symm.trans hf
    refine lv_iload hx hb dX12_run_41 (lv_at hl 5 rfl) ?_
    refine lv_iconst (v := 4) hx hb dX12_run_43 (by decide) ?_
    refine lv_icmp_ge (tgt := 61) hx hb dX12_run_44 (by decide) (fun hc => ?_) (fun hc => ?_)
    · replace hf := hs_t hf hc
      obtain rfl := Option.some.inj hf
      exact hex0 _ _ _ hP hS (lv_sub hl [0, 1, 2, 3, 4] rfl)
    · replace hf := hs_f hf hc
      refine lv_aload_n hx hb dX12_run_47 rfl (lv_at hl 0 rfl) ?_
      obtain ⟨h2, hf⟩ := hs_ck hf
      obtain ⟨h3, hf⟩ := hs_ck hf
      refine hs_getr (C := RX12) (T := TX12) (N := 48) hx hb hts (fun w h => List.mem_cons_of_mem _ (inlX12 w h)) hown hK.1 hP h2 (by decide) rfl 34 (by decide) (hts _ (List.mem_cons_of_mem _ wq150)) (fun _ h => h) rfl h3 dX12_run_48 ?_
      refine lv_iload hx hb dX12_run_51 (lv_at hl 5 rfl) ?_
      refine lv_iconst (v := 0) hx hb dX12_run_53 (by decide) ?_
      obtain ⟨h4, hf⟩ := hs_ck hf
      obtain ⟨h5, hf⟩ := hs_ck hf
      refine hs_iast hx hb hK.1 hP hS h4 h5 dX12_run_54 (fun H locs hP hS => ?_)
      refine lv_iinc (v := (v5 + (1 : Int32))) (lv' := [(5, .int (v5 + (1 : Int32))), (0, .ref (B + v0)), (1, .int v1), (2, .int v2), (3, .int v3), (4, .int v4)]) hx hb dX12_run_55 hl (k := 5) rfl (by rfl) (by decide) rfl (fun ls hl => ?_)
      refine lv_goto (tgt := 41) hx hb dX12_run_58 (by decide) ?_
      exact ih _ _ hf _ _ _ hP hS (lv_sub hl [1, 2, 3, 4, 5, 0] rfl)

set_option maxHeartbeats 4000000 in
set_option maxRecDepth 100000 in
theorem wX12_run_130 {p : Program} {l : Launch} {e : Env} {s : State} {m : MethodId} {args : Array Value} {below : List Frame} {meth : Method} {c : Code} {B : Nat} {D : va_G} {E : Nat → ClassId} (hX : hs_cx cX12_run (some .int) 6 RX12 wcX12_run p s m args meth c D E) {Q : State → Prop} {o : Nat × hs_S} {v0 : Nat} (hex0 : o.1 = 0 → ∀ (H : Heap) (locs : List Loc) (ls : Array Slot), hs_P B D E (o.2) H → hs_Sx B s.heap H locs → lv_has ls 6 [(0, .ref (B + v0))] → W p l e rmX12_run s m args below meth c H locs 0 0 Q (F0 m 181 ls [])) (hex1 : o.1 = 1 → ∀ (H : Heap) (locs : List Loc) (ls : Array Slot), hs_P B D E (o.2) H → hs_Sx B s.heap H locs → lv_has ls 6 [(0, .ref (B + v0))] → W p l e rmX12_run s m args below meth c H locs 0 0 Q (F0 m 171 ls [])) : ∀ (n : Nat)  (g : hs_S), lX12_run_130 n v0 g = some o → ∀ (H : Heap) (locs : List Loc) (ls : Array Slot), hs_P B D E g H → hs_Sx B s.heap H locs → lv_has ls 6 [(0, .ref (B + v0))] → W p l e rmX12_run s m args below meth c H locs 0 0 Q (F0 m 130 ls []) := by
  obtain ⟨hx, hb, hr, hml, hown, hts, hlocks, hK⟩ := id hX
  intro n
  induction n with
  | zero =>
    intro g hf
    cases hf
  | succ n ih =>
    intro g hf H locs ls hP hS hl
    replace hf := (lX12_run_130_s n v0 g).symm.trans hf
    refine lv_aload_n hx hb dX12_run_130 rfl (lv_at hl 0 rfl) ?_
    obtain ⟨h24, hf⟩ := hs_ck hf
    refine hs_geti (C := RX12) (T := TX12) (N := 48) hx hb hts (fun w h => List.mem_cons_of_mem _ (inlX12 w h)) hown hK.1 hP h24 (by decide) rfl 40 (by decide) (hts _ (List.mem_cons_of_mem _ wq859)) (fun _ h => h) rfl dX12_run_131 ?_
    refine lv_if_le (tgt := 181) hx hb dX12_run_134 (by decide) (fun hc => ?_) (fun hc => ?_)
    · replace hf := hs_t hf hc
      obtain rfl := Option.some.inj hf
      exact hex0 rfl _ _ _ hP hS (lv_sub hl [0] rfl)
    · replace hf := hs_f hf hc
      refine lv_aload_n hx hb dX12_run_137 rfl (lv_at hl 0 rfl) ?_
      refine hs_geti (C := RX12) (T := TX12) (N := 48) hx hb hts (fun w h => List.mem_cons_of_mem _ (inlX12 w h)) hown hK.1 hP h24 (by decide) rfl 46 (by decide) (hts _ (List.mem_cons_of_mem _ wq860)) (fun _ h => h) rfl dX12_run_138 ?_
      refine lv_if_ne (tgt := 181) hx hb dX12_run_141 (by decide) (fun hc => ?_) (fun hc => ?_)
      · replace hf := hs_f hf hc
        obtain rfl := Option.some.inj hf
        exact hex0 rfl _ _ _ hP hS (lv_sub hl [0] rfl)
      · replace hf := hs_t hf hc
        refine lv_aload_n hx hb dX12_run_144 rfl (lv_at hl 0 rfl) ?_
        refine lv_iconst (v := 0) hx hb dX12_run_145 (by decide) ?_
        refine hs_puti (C := RX12) (T := TX12) (N := 48) hx hb hts (fun w h => List.mem_cons_of_mem _ (inlX12 w h)) tyX12 tyX12_ok nmX12 hown hK.1 hP hS h24 (by decide) rfl 47 (by decide) (hts _ (List.mem_cons_of_mem _ wq861)) (fun _ h => h) (Or.inl rfl) rfl rfl rfl dX12_run_146 (fun H locs hP hS => ?_)
        refine lv_aload_n hx hb dX12_run_149 rfl (lv_at hl 0 rfl) ?_
        obtain ⟨g25, h27, hf⟩ := hs_bv_some hf
        refine hs_callv (va_runV (As := []) (rest := []) ⟨hx, hb, hml, hown, hts⟩ (ctX12_step l B D E v0 (hs_wI g v0 47 (0 : Int32)) _ h27) (cwV 0 hts (hs_gV (fun _ h => List.mem_cons_of_mem _ h) wq866 wq867 wq868 wq5 wq869) rfl rfl rfl (by decide +kernel) ⟨Nat.le_of_ble_eq_true rfl, Nat.le_of_ble_eq_true rfl⟩) (hs_preV (r := (RX12, TX12, 48)) hP hK h24 (by decide) rfl) rfl rfl hl.1 rfl (lv_room (Nat.le_of_ble_eq_true rfl)) dX12_run_150 ⟨(Nat.le_of_ble_eq_true rfl), (Nat.le_of_ble_eq_true rfl)⟩) hS (fun H locs hP hS => ?_)
        refine lv_aload_n hx hb dX12_run_153 rfl (lv_at hl 0 rfl) ?_
        obtain ⟨h28, hf⟩ := hs_ck hf
        refine hs_geti (C := RX12) (T := TX12) (N := 48) hx hb hts (fun w h => List.mem_cons_of_mem _ (inlX12 w h)) hown hK.1 hP h28 (by decide) rfl 47 (by decide) (hts _ (List.mem_cons_of_mem _ wq861)) (fun _ h => h) rfl dX12_run_154 ?_
        refine lv_if_le (tgt := 130) hx hb dX12_run_157 (by decide) (fun hc => ?_) (fun hc => ?_)
        · replace hf := hs_t hf hc
          exact ih _ hf _ _ _ hP hS (lv_sub hl [0] rfl)
        · replace hf := hs_f hf hc
          refine lv_aload_n hx hb dX12_run_160 rfl (lv_at hl 0 rfl) ?_
          obtain ⟨g29, h31, hf⟩ := hs_bv_some hf
          refine hs_callv (va_runV (As := []) (rest := []) ⟨hx, hb, hml, hown, hts⟩ (ctX12_caught l B D E v0 g25 _ h31) (cwV 0 hts (hs_gV (fun _ h => List.mem_cons_of_mem _ h) wq913 wq914 wq915 wq5 wq916) rfl rfl rfl (by decide +kernel) ⟨Nat.le_of_ble_eq_true rfl, Nat.le_of_ble_eq_true rfl⟩) (hs_preV (r := (RX12, TX12, 48)) hP hK h28 (by decide) rfl) rfl rfl hl.1 rfl (lv_room (Nat.le_of_ble_eq_true rfl)) dX12_run_161 ⟨(Nat.le_of_ble_eq_true rfl), (Nat.le_of_ble_eq_true rfl)⟩) hS (fun H locs hP hS => ?_)
          refine lv_aload_n hx hb dX12_run_164 rfl (lv_at hl 0 rfl) ?_
          obtain ⟨h32, hf⟩ := hs_ck hf
          refine hs_geti (C := RX12) (T := TX12) (N := 48) hx hb hts (fun w h => List.mem_cons_of_mem _ (inlX12 w h)) hown hK.1 hP h32 (by decide) rfl 40 (by decide) (hts _ (List.mem_cons_of_mem _ wq859)) (fun _ h => h) rfl dX12_run_165 ?_
          refine lv_if_ne (tgt := 130) hx hb dX12_run_168 (by decide) (fun hc => ?_) (fun hc => ?_)
          · replace hf := hs_f hf hc
            exact ih _ hf _ _ _ hP hS (lv_sub hl [0] rfl)
          · replace hf := hs_t hf hc
            obtain rfl := Option.some.inj hf
            exact hex1 rfl _ _ _ hP hS (lv_sub hl [0] rfl)

set_option maxHeartbeats 4000000 in
set_option maxRecDepth 100000 in
theorem wX12_run_j181 {p : Program} {l : Launch} {e : Env} {s : State} {m : MethodId} {args : Array Value} {below : List Frame} {meth : Method} {c : Code} {B : Nat} {D : va_G} {E : Nat → ClassId} (hX : hs_cx cX12_run (some .int) 6 RX12 wcX12_run p s m args meth c D E) {o : Int32 × hs_S}  {v0 : Nat}   {g : hs_S} {H : Heap} {locs : List Loc} {ls : Array Slot} (hf : jX12_run_181 v0 g = some o) (hP : hs_P B D E g H) (hS : hs_Sx B s.heap H locs) (hl : lv_has ls 6 [(0, .ref (B + v0))]) : W p l e rmX12_run s m args below meth c H locs 0 0 (MQ below (hs_Qi B D E o) args s 0 0 (hs_F B)) (F0 m 181 ls []) := by
  obtain ⟨hx, hb, hr, hml, hown, hts, hlocks, hK⟩ := id hX
  unfold jX12_run_181 at hf
  refine lv_aload_n hx hb dX12_run_181 rfl (lv_at hl 0 rfl) ?_
  obtain ⟨h36, hf⟩ := hs_ck hf
  refine hs_geti (C := RX12) (T := TX12) (N := 48) hx hb hts (fun w h => List.mem_cons_of_mem _ (inlX12 w h)) hown hK.1 hP h36 (by decide) rfl 46 (by decide) (hts _ (List.mem_cons_of_mem _ wq860)) (fun _ h => h) rfl dX12_run_182 ?_
  refine lv_if_eq (tgt := 195) hx hb dX12_run_185 (by decide) (fun hc => ?_) (fun hc => ?_)
  · replace hf := hs_t hf hc
    refine lv_iconst (v := 0) hx hb dX12_run_195 (by decide) ?_
    exact hs_iret hx hb hr hlocks rfl hK hP hS hf dX12_run_196
  · replace hf := hs_f hf hc
    refine lv_aload_n hx hb dX12_run_188 rfl (lv_at hl 0 rfl) ?_
    refine lv_iconst (v := 0) hx hb dX12_run_189 (by decide) ?_
    refine hs_puti (C := RX12) (T := TX12) (N := 48) hx hb hts (fun w h => List.mem_cons_of_mem _ (inlX12 w h)) tyX12 tyX12_ok nmX12 hown hK.1 hP hS h36 (by decide) rfl 36 (by decide) (hts _ (List.mem_cons_of_mem _ wq855)) (fun _ h => h) (Or.inl rfl) rfl rfl rfl dX12_run_190 (fun H locs hP hS => ?_)
    refine lv_iconst (v := 1) hx hb dX12_run_193 (by decide) ?_
    exact hs_iret hx hb hr hlocks rfl hK hP hS hf dX12_run_194

set_option maxHeartbeats 4000000 in
set_option maxRecDepth 100000 in
theorem wX12_run_j113 {p : Program} {l : Launch} {e : Env} {s : State} {m : MethodId} {args : Array Value} {below : List Frame} {meth : Method} {c : Code} {B : Nat} {D : va_G} {E : Nat → ClassId} (hX : hs_cx cX12_run (some .int) 6 RX12 wcX12_run p s m args meth c D E) {o : Int32 × hs_S}  {v0 : Nat} {v1 : Int32} {v3 : Int32}   {g : hs_S} {H : Heap} {locs : List Loc} {ls : Array Slot} (hf : jX12_run_113 v0 v1 v3 g = some o) (hP : hs_P B D E g H) (hS : hs_Sx B s.heap H locs) (hl : lv_has ls 6 [(0, .ref (B + v0)), (1, .int v1), (3, .int v3)]) : W p l e rmX12_run s m args below meth c H locs 0 0 (MQ below (hs_Qi B D E o) args s 0 0 (hs_F B)) (F0 m 113 ls []) := by
  obtain ⟨hx, hb, hr, hml, hown, hts, hlocks, hK⟩ := id hX
  unfold jX12_run_113 at hf
  refine lv_aload_n hx hb dX12_run_113 rfl (lv_at hl 0 rfl) ?_
  obtain ⟨h20, hf⟩ := hs_ck hf
  obtain ⟨h21, hf⟩ := hs_ck hf
  refine hs_getr (C := RX12) (T := TX12) (N := 48) hx hb hts (fun w h => List.mem_cons_of_mem _ (inlX12 w h)) hown hK.1 hP h20 (by decide) rfl 5 (by decide) (hts _ (List.mem_cons_of_mem _ wq123)) (fun _ h => h) rfl h21 dX12_run_114 ?_
  refine lv_iload_n hx hb dX12_run_117 rfl (lv_at hl 1 rfl) ?_
  obtain ⟨h22, hf⟩ := hs_ck hf
  obtain ⟨h23, hf⟩ := hs_ck hf
  refine hs_iald hx hb hK.1 hP h22 h23 dX12_run_118 ?_
  refine lv_iconst (v := 1) hx hb dX12_run_119 (by decide) ?_
  refine lv_icmp_le (tgt := 130) hx hb dX12_run_120 (by decide) (fun hc => ?_) (fun hc => ?_)
  · replace hf := hs_t hf hc
    obtain ⟨k33, g34, h35, hf⟩ := hs_bd_some hf
    refine wX12_run_130 hX (fun hlab H locs ls hP hS hl => ?_) (fun hlab H locs ls hP hS hl => ?_) hs_N _ h35 _ _ _ hP hS (lv_sub hl [0] rfl)
    · replace hlab : k33 = 0 := hlab
      replace hf := hs_t hf hlab
      exact wX12_run_j181 hX hf hP hS (lv_sub hl [0] rfl)
    · replace hlab : k33 = 1 := hlab
      replace hf := hs_f hf (by rw [hlab]; decide)
      refine lv_aload_n hx hb dX12_run_171 rfl (lv_at hl 0 rfl) ?_
      refine lv_aload_n hx hb dX12_run_172 rfl (lv_at hl 0 rfl) ?_
      obtain ⟨h37, hf⟩ := hs_ck hf
      refine hs_geti (C := RX12) (T := TX12) (N := 48) hx hb hts (fun w h => List.mem_cons_of_mem _ (inlX12 w h)) hown hK.1 hP h37 (by decide) rfl 47 (by decide) (hts _ (List.mem_cons_of_mem _ wq861)) (fun _ h => h) rfl dX12_run_173 ?_
      refine hs_puti (C := RX12) (T := TX12) (N := 48) hx hb hts (fun w h => List.mem_cons_of_mem _ (inlX12 w h)) tyX12 tyX12_ok nmX12 hown hK.1 hP hS h37 (by decide) rfl 36 (by decide) (hts _ (List.mem_cons_of_mem _ wq855)) (fun _ h => h) (Or.inl rfl) rfl rfl rfl dX12_run_176 (fun H locs hP hS => ?_)
      refine lv_iconst (v := 2) hx hb dX12_run_179 (by decide) ?_
      exact hs_iret hx hb hr hlocks rfl hK hP hS hf dX12_run_180
  · replace hf := hs_f hf hc
    refine lv_aload_n hx hb dX12_run_123 rfl (lv_at hl 0 rfl) ?_
    obtain ⟨h38, hf⟩ := hs_ck hf
    refine hs_getr (C := RX12) (T := TX12) (N := 48) hx hb hts (fun w h => List.mem_cons_of_mem _ (inlX12 w h)) hown hK.1 hP h20 (by decide) rfl 45 (by decide) (hts _ (List.mem_cons_of_mem _ wq156)) (fun _ h => h) rfl h38 dX12_run_124 ?_
    refine lv_iconst (v := 1) hx hb dX12_run_127 (by decide) ?_
    refine lv_iload_n hx hb dX12_run_128 rfl (lv_at hl 2 rfl) ?_
    obtain ⟨h39, hf⟩ := hs_ck hf
    obtain ⟨h40, hf⟩ := hs_ck hf
    refine hs_iast hx hb hK.1 hP hS h39 h40 dX12_run_129 (fun H locs hP hS => ?_)
    obtain ⟨k41, g42, h43, hf⟩ := hs_bd_some hf
    refine wX12_run_130 hX (fun hlab H locs ls hP hS hl => ?_) (fun hlab H locs ls hP hS hl => ?_) hs_N _ h43 _ _ _ hP hS (lv_sub hl [0] rfl)
    · replace hlab : k41 = 0 := hlab
      replace hf := hs_t hf hlab
      exact wX12_run_j181 hX hf hP hS (lv_sub hl [0] rfl)
    · replace hlab : k41 = 1 := hlab
      replace hf := hs_f hf (by rw [hlab]; decide)
      refine lv_aload_n hx hb dX12_run_171 rfl (lv_at hl 0 rfl) ?_
      refine lv_aload_n hx hb dX12_run_172 rfl (lv_at hl 0 rfl) ?_
      obtain ⟨h44, hf⟩ := hs_ck hf
      refine hs_geti (C := RX12) (T := TX12) (N := 48) hx hb hts (fun w h => List.mem_cons_of_mem _ (inlX12 w h)) hown hK.1 hP h44 (by decide) rfl 47 (by decide) (hts _ (List.mem_cons_of_mem _ wq861)) (fun _ h => h) rfl dX12_run_173 ?_
      refine hs_puti (C := RX12) (T := TX12) (N := 48) hx hb hts (fun w h => List.mem_cons_of_mem _ (inlX12 w h)) tyX12 tyX12_ok nmX12 hown hK.1 hP hS h44 (by decide) rfl 36 (by decide) (hts _ (List.mem_cons_of_mem _ wq855)) (fun _ h => h) (Or.inl rfl) rfl rfl rfl dX12_run_176 (fun H locs hP hS => ?_)
      refine lv_iconst (v := 2) hx hb dX12_run_179 (by decide) ?_
      exact hs_iret hx hb hr hlocks rfl hK hP hS hf dX12_run_180

set_option maxHeartbeats 4000000 in
set_option maxRecDepth 100000 in
theorem ctX12_run (l : Launch) (B : Nat) (D : va_G) (E : Nat → ClassId) (v0 : Nat) (v1 : Int32) (v2 : Int32) (v3 : Int32) (v4 : Int32) (g : hs_S) (o : Int32 × hs_S) (hf : fX12_run v0 v1 v2 v3 v4 g = some o) : Met l yX12_run wcX12_run rmX12_run (hs_Pc B D E g [.ref (B + v0), .int v1, .int v2, .int v3, .int v4]) (hs_Qi B D E o) (0) (0) (hs_F B) := by
  refine Met.ofW (cc := cX12_run) (maxL := 6) (ret := (some .int)) (by decide) rfl ?_
  intro p e s m args below meth c s₁ Bd hml hv
  obtain ⟨rfl, hP, hK⟩ := hv
  have hx := Bd.exec
  have hb := Bd.bytes
  have hr := Bd.returns
  have hts := atoms_spec (ws := wcX12_run) Bd.pre
  have hown : s.vm.findClass RX12 = some m.cls := findClass_of_methodNamed Bd.named
  have hlocks := Bd.notSynchronized
  have hS : hs_Sx B s.heap s.heap [] := va_S.rf
  have hX : hs_cx cX12_run (some .int) 6 RX12 wcX12_run p s m (List.toArray [.ref (B + v0), .int v1, .int v2, .int v3, .int v4]) meth c D E := ⟨hx, hb, hr, hml, hown, hts, hlocks, hK⟩
  have hl := lv_entry ([.ref (B + v0), .int v1, .int v2, .int v3, .int v4]) (n := 6) (Nat.le_of_ble_eq_true rfl)
  rw [lg_entry_eq]
  generalize (lg_sl ([.ref (B + v0), .int v1, .int v2, .int v3, .int v4]) ++ List.replicate (6 - (lg_sl ([.ref (B + v0), .int v1, .int v2, .int v3, .int v4])).length) Slot.unset).toArray = ls at hl ⊢
  have hl : lv_has ls 6 [(0, .ref (B + v0)), (1, .int v1), (2, .int v2), (3, .int v3), (4, .int v4)] := hl
  have hP : hs_P B D E g s.heap := hP
  unfold fX12_run at hf
  refine lv_aload_n hx hb dX12_run_0 rfl (lv_at hl 0 rfl) ?_
  obtain ⟨h1, hf⟩ := hs_ck hf
  refine hs_geti (C := RX12) (T := TX12) (N := 48) hx hb hts (fun w h => List.mem_cons_of_mem _ (inlX12 w h)) hown hK.1 hP h1 (by decide) rfl 22 (by decide) (hts _ (List.mem_cons_of_mem _ wq394)) (fun _ h => h) rfl dX12_run_1 ?_
  refine lv_if_ne (tgt := 10) hx hb dX12_run_4 (by decide) (fun hc => ?_) (fun hc => ?_)
  · replace hf := hs_f hf hc
    refine lv_iload_n hx hb dX12_run_10 rfl (lv_at hl 1 rfl) ?_
    refine lv_if_lt (tgt := 35) hx hb dX12_run_11 (by decide) (fun hc => ?_) (fun hc => ?_)
    · replace hf := hs_t hf hc
      refine lv_bipush (v := -3) hx hb dX12_run_35 (by decide) ?_
      exact hs_iret hx hb hr hlocks rfl hK hP hS hf dX12_run_37
    · replace hf := hs_f hf hc
      refine lv_iload_n hx hb dX12_run_14 rfl (lv_at hl 1 rfl) ?_
      refine lv_aload_n hx hb dX12_run_15 rfl (lv_at hl 0 rfl) ?_
      refine hs_geti (C := RX12) (T := TX12) (N := 48) hx hb hts (fun w h => List.mem_cons_of_mem _ (inlX12 w h)) hown hK.1 hP h1 (by decide) rfl 4 (by decide) (hts _ (List.mem_cons_of_mem _ wq392)) (fun _ h => h) rfl dX12_run_16 ?_
      refine lv_icmp_ge (tgt := 35) hx hb dX12_run_19 (by decide) (fun hc => ?_) (fun hc => ?_)
      · replace hf := hs_t hf hc
        refine lv_bipush (v := -3) hx hb dX12_run_35 (by decide) ?_
        exact hs_iret hx hb hr hlocks rfl hK hP hS hf dX12_run_37
      · replace hf := hs_f hf hc
        refine lv_iload hx hb dX12_run_22 (lv_at hl 4 rfl) ?_
        refine lv_if_lt (tgt := 35) hx hb dX12_run_24 (by decide) (fun hc => ?_) (fun hc => ?_)
        · replace hf := hs_t hf hc
          refine lv_bipush (v := -3) hx hb dX12_run_35 (by decide) ?_
          exact hs_iret hx hb hr hlocks rfl hK hP hS hf dX12_run_37
        · replace hf := hs_f hf hc
          refine lv_iload hx hb dX12_run_27 (lv_at hl 4 rfl) ?_
          refine lv_ldcw (v := 100000) hx hb hown (hts _ (List.mem_cons_of_mem _ wq854)) dX12_run_29 ?_
          refine lv_icmp_le (tgt := 38) hx hb dX12_run_32 (by decide) (fun hc => ?_) (fun hc => ?_)
          · replace hf := hs_t hf hc
            refine lv_iconst (v := 0) hx hb dX12_run_38 (by decide) ?_
            refine lv_istore (lv' := [(5, .int (0 : Int32)), (0, .ref (B + v0)), (1, .int v1), (2, .int v2), (3, .int v3), (4, .int v4)]) hx hb dX12_run_39 hl (by decide) rfl (fun ls hl => ?_)
            obtain ⟨g7, h8, hf⟩ := hs_bv_some hf
            refine wX12_run_41 hX (fun H locs ls hP hS hl => ?_) hs_N _ _ h8 _ _ _ hP hS (lv_sub hl [1, 2, 3, 4, 5, 0] rfl)
            refine lv_aload_n hx hb dX12_run_61 rfl (lv_at hl 0 rfl) ?_
            refine lv_iconst (v := 0) hx hb dX12_run_62 (by decide) ?_
            obtain ⟨h9, hf⟩ := hs_ck hf
            refine hs_puti (C := RX12) (T := TX12) (N := 48) hx hb hts (fun w h => List.mem_cons_of_mem _ (inlX12 w h)) tyX12 tyX12_ok nmX12 hown hK.1 hP hS h9 (by decide) rfl 36 (by decide) (hts _ (List.mem_cons_of_mem _ wq855)) (fun _ h => h) (Or.inl rfl) rfl rfl rfl dX12_run_63 (fun H locs hP hS => ?_)
            refine lv_aload_n hx hb dX12_run_66 rfl (lv_at hl 0 rfl) ?_
            refine lv_iconst (v := 0) hx hb dX12_run_67 (by decide) ?_
            refine hs_puti (C := RX12) (T := TX12) (N := 48) hx hb hts (fun w h => List.mem_cons_of_mem _ (inlX12 w h)) tyX12 tyX12_ok nmX12 hown hK.1 hP hS h9 (by decide) rfl 37 (by decide) (hts _ (List.mem_cons_of_mem _ wq856)) (fun _ h => h) (Or.inl rfl) rfl rfl rfl dX12_run_68 (fun H locs hP hS => ?_)
            refine lv_aload_n hx hb dX12_run_71 rfl (lv_at hl 0 rfl) ?_
            refine lv_iconst (v := 0) hx hb dX12_run_72 (by decide) ?_
            refine hs_puti (C := RX12) (T := TX12) (N := 48) hx hb hts (fun w h => List.mem_cons_of_mem _ (inlX12 w h)) tyX12 tyX12_ok nmX12 hown hK.1 hP hS h9 (by decide) rfl 38 (by decide) (hts _ (List.mem_cons_of_mem _ wq857)) (fun _ h => h) (Or.inl rfl) rfl rfl rfl dX12_run_73 (fun H locs hP hS => ?_)
            refine lv_aload_n hx hb dX12_run_76 rfl (lv_at hl 0 rfl) ?_
            refine lv_iload hx hb dX12_run_77 (lv_at hl 4 rfl) ?_
            refine hs_puti (C := RX12) (T := TX12) (N := 48) hx hb hts (fun w h => List.mem_cons_of_mem _ (inlX12 w h)) tyX12 tyX12_ok nmX12 hown hK.1 hP hS h9 (by decide) rfl 39 (by decide) (hts _ (List.mem_cons_of_mem _ wq858)) (fun _ h => h) (Or.inl rfl) rfl rfl rfl dX12_run_79 (fun H locs hP hS => ?_)
            obtain ⟨g10, e11, hf⟩ := hs_bv_some hf
            replace e11 := Option.some.inj e11
            rw [e11] at hP
            have h12 : hs_kd g10 v0 = 10 := by rw [← e11]; exact h9
            refine lv_aload_n hx hb dX12_run_82 rfl (lv_at hl 0 rfl) ?_
            refine lv_iconst (v := 0) hx hb dX12_run_83 (by decide) ?_
            refine hs_puti (C := RX12) (T := TX12) (N := 48) hx hb hts (fun w h => List.mem_cons_of_mem _ (inlX12 w h)) tyX12 tyX12_ok nmX12 hown hK.1 hP hS h12 (by decide) rfl 40 (by decide) (hts _ (List.mem_cons_of_mem _ wq859)) (fun _ h => h) (Or.inl rfl) rfl rfl rfl dX12_run_84 (fun H locs hP hS => ?_)
            refine lv_aload_n hx hb dX12_run_87 rfl (lv_at hl 0 rfl) ?_
            refine lv_iconst (v := 0) hx hb dX12_run_88 (by decide) ?_
            refine hs_puti (C := RX12) (T := TX12) (N := 48) hx hb hts (fun w h => List.mem_cons_of_mem _ (inlX12 w h)) tyX12 tyX12_ok nmX12 hown hK.1 hP hS h12 (by decide) rfl 46 (by decide) (hts _ (List.mem_cons_of_mem _ wq860)) (fun _ h => h) (Or.inl rfl) (hs_01_nar (rfl)) (hs_01_fit (rfl)) rfl dX12_run_89 (fun H locs hP hS => ?_)
            refine lv_aload_n hx hb dX12_run_92 rfl (lv_at hl 0 rfl) ?_
            refine lv_iload_n hx hb dX12_run_93 rfl (lv_at hl 1 rfl) ?_
            obtain ⟨g13, h15, hf⟩ := hs_bv_some hf
            refine hs_callv (va_runV (As := [.int v1]) (rest := []) ⟨hx, hb, hml, hown, hts⟩ (ctX12_enter l B D E v0 v1 (hs_wI (hs_wI g10 v0 40 (0 : Int32)) v0 46 (0 : Int32)) _ h15) (cwV 1 hts (hs_gV (fun _ h => List.mem_cons_of_mem _ h) wq862 wq863 wq864 wq5 wq865) rfl rfl rfl (by decide +kernel) ⟨Nat.le_of_ble_eq_true rfl, Nat.le_of_ble_eq_true rfl⟩) (hs_preV (r := (RX12, TX12, 48)) hP hK h12 (by decide) rfl) rfl rfl hl.1 rfl (lv_room (Nat.le_of_ble_eq_true rfl)) dX12_run_94 ⟨(Nat.le_of_ble_eq_true rfl), (Nat.le_of_ble_eq_true rfl)⟩) hS (fun H locs hP hS => ?_)
            refine lv_aload_n hx hb dX12_run_97 rfl (lv_at hl 0 rfl) ?_
            obtain ⟨h16, hf⟩ := hs_ck hf
            obtain ⟨h17, hf⟩ := hs_ck hf
            refine hs_getr (C := RX12) (T := TX12) (N := 48) hx hb hts (fun w h => List.mem_cons_of_mem _ (inlX12 w h)) hown hK.1 hP h16 (by decide) rfl 5 (by decide) (hts _ (List.mem_cons_of_mem _ wq123)) (fun _ h => h) rfl h17 dX12_run_98 ?_
            refine lv_iload_n hx hb dX12_run_101 rfl (lv_at hl 1 rfl) ?_
            obtain ⟨h18, hf⟩ := hs_ck hf
            obtain ⟨h19, hf⟩ := hs_ck hf
            refine hs_iald hx hb hK.1 hP h18 h19 dX12_run_102 ?_
            refine lv_if_le (tgt := 113) hx hb dX12_run_103 (by decide) (fun hc => ?_) (fun hc => ?_)
            · replace hf := hs_t hf hc
              exact wX12_run_j113 hX hf hP hS (lv_sub hl [0, 1, 3] rfl)
            · replace hf := hs_f hf hc
              refine lv_aload_n hx hb dX12_run_106 rfl (lv_at hl 0 rfl) ?_
              obtain ⟨h45, hf⟩ := hs_ck hf
              refine hs_getr (C := RX12) (T := TX12) (N := 48) hx hb hts (fun w h => List.mem_cons_of_mem _ (inlX12 w h)) hown hK.1 hP h16 (by decide) rfl 45 (by decide) (hts _ (List.mem_cons_of_mem _ wq156)) (fun _ h => h) rfl h45 dX12_run_107 ?_
              refine lv_iconst (v := 0) hx hb dX12_run_110 (by decide) ?_
              refine lv_iload_n hx hb dX12_run_111 rfl (lv_at hl 2 rfl) ?_
              obtain ⟨h46, hf⟩ := hs_ck hf
              obtain ⟨h47, hf⟩ := hs_ck hf
              refine hs_iast hx hb hK.1 hP hS h46 h47 dX12_run_112 (fun H locs hP hS => ?_)
              exact wX12_run_j113 hX hf hP hS (lv_sub hl [0, 1, 3] rfl)
          · replace hf := hs_f hf hc
            refine lv_bipush (v := -3) hx hb dX12_run_35 (by decide) ?_
            exact hs_iret hx hb hr hlocks rfl hK hP hS hf dX12_run_37
  · replace hf := hs_t hf hc
    refine lv_bipush (v := -2) hx hb dX12_run_7 (by decide) ?_
    exact hs_iret hx hb hr hlocks rfl hK hP hS hf dX12_run_9

theorem dX12_answer_0 : decode cX12_answer 0 = .ok (.aload_n 0, 1) := by decide +kernel
theorem dX12_answer_1 : decode cX12_answer 1 = .ok (.getfield 258, 3) := by decide +kernel
theorem dX12_answer_4 : decode cX12_answer 4 = .ok (.ireturn, 1) := by decide +kernel
abbrev wcX12_answer : List Cond := .code yX12_answer cX12_answer 1 (some .int) :: wsL_law
def fX12_answer (v0 : Nat) (g : hs_S) : Option (Int32 × hs_S) :=
  if hs_kd g v0 = 10 then
  some ((hs_I g v0 36), g)
  else none
abbrev rmX12_answer : Room := { frames := 0, cells := 0, slots := 0, locals := 0 }
set_option maxHeartbeats 4000000 in
set_option maxRecDepth 100000 in
theorem ctX12_answer (l : Launch) (B : Nat) (D : va_G) (E : Nat → ClassId) (v0 : Nat) (g : hs_S) (o : Int32 × hs_S) (hf : fX12_answer v0 g = some o) : Met l yX12_answer wcX12_answer rmX12_answer (hs_Pc B D E g [.ref (B + v0)]) (hs_Qi B D E o) (0) (0) (hs_F B) := by
  refine Met.ofW (cc := cX12_answer) (maxL := 1) (ret := (some .int)) (by decide) rfl ?_
  intro p e s m args below meth c s₁ Bd hml hv
  obtain ⟨rfl, hP, hK⟩ := hv
  have hx := Bd.exec
  have hb := Bd.bytes
  have hr := Bd.returns
  have hts := atoms_spec (ws := wcX12_answer) Bd.pre
  have hown : s.vm.findClass RX12 = some m.cls := findClass_of_methodNamed Bd.named
  have hlocks := Bd.notSynchronized
  have hS : hs_Sx B s.heap s.heap [] := va_S.rf
  have hX : hs_cx cX12_answer (some .int) 1 RX12 wcX12_answer p s m (List.toArray [.ref (B + v0)]) meth c D E := ⟨hx, hb, hr, hml, hown, hts, hlocks, hK⟩
  have hl := lv_entry ([.ref (B + v0)]) (n := 1) (Nat.le_of_ble_eq_true rfl)
  rw [lg_entry_eq]
  generalize (lg_sl ([.ref (B + v0)]) ++ List.replicate (1 - (lg_sl ([.ref (B + v0)])).length) Slot.unset).toArray = ls at hl ⊢
  have hl : lv_has ls 1 [(0, .ref (B + v0))] := hl
  have hP : hs_P B D E g s.heap := hP
  unfold fX12_answer at hf
  refine lv_aload_n hx hb dX12_answer_0 rfl (lv_at hl 0 rfl) ?_
  obtain ⟨h1, hf⟩ := hs_ck hf
  refine hs_geti (C := RX12) (T := TX12) (N := 48) hx hb hts (fun w h => List.mem_cons_of_mem _ (inlX12 w h)) hown hK.1 hP h1 (by decide) rfl 36 (by decide) (hts _ (List.mem_cons_of_mem _ wq855)) (fun _ h => h) rfl dX12_answer_1 ?_
  exact hs_iret hx hb hr hlocks rfl hK hP hS hf dX12_answer_4

theorem dX12_counted_0 : decode cX12_counted 0 = .ok (.aload_n 0, 1) := by decide +kernel
theorem dX12_counted_1 : decode cX12_counted 1 = .ok (.getfield 251, 3) := by decide +kernel
theorem dX12_counted_4 : decode cX12_counted 4 = .ok (.ireturn, 1) := by decide +kernel
abbrev wcX12_counted : List Cond := .code yX12_counted cX12_counted 1 (some .int) :: wsL_law
def fX12_counted (v0 : Nat) (g : hs_S) : Option (Int32 × hs_S) :=
  if hs_kd g v0 = 10 then
  some ((hs_I g v0 37), g)
  else none
abbrev rmX12_counted : Room := { frames := 0, cells := 0, slots := 0, locals := 0 }
set_option maxHeartbeats 4000000 in
set_option maxRecDepth 100000 in
theorem ctX12_counted (l : Launch) (B : Nat) (D : va_G) (E : Nat → ClassId) (v0 : Nat) (g : hs_S) (o : Int32 × hs_S) (hf : fX12_counted v0 g = some o) : Met l yX12_counted wcX12_counted rmX12_counted (hs_Pc B D E g [.ref (B + v0)]) (hs_Qi B D E o) (0) (0) (hs_F B) := by
  refine Met.ofW (cc := cX12_counted) (maxL := 1) (ret := (some .int)) (by decide) rfl ?_
  intro p e s m args below meth c s₁ Bd hml hv
  obtain ⟨rfl, hP, hK⟩ := hv
  have hx := Bd.exec
  have hb := Bd.bytes
  have hr := Bd.returns
  have hts := atoms_spec (ws := wcX12_counted) Bd.pre
  have hown : s.vm.findClass RX12 = some m.cls := findClass_of_methodNamed Bd.named
  have hlocks := Bd.notSynchronized
  have hS : hs_Sx B s.heap s.heap [] := va_S.rf
  have hX : hs_cx cX12_counted (some .int) 1 RX12 wcX12_counted p s m (List.toArray [.ref (B + v0)]) meth c D E := ⟨hx, hb, hr, hml, hown, hts, hlocks, hK⟩
  have hl := lv_entry ([.ref (B + v0)]) (n := 1) (Nat.le_of_ble_eq_true rfl)
  rw [lg_entry_eq]
  generalize (lg_sl ([.ref (B + v0)]) ++ List.replicate (1 - (lg_sl ([.ref (B + v0)])).length) Slot.unset).toArray = ls at hl ⊢
  have hl : lv_has ls 1 [(0, .ref (B + v0))] := hl
  have hP : hs_P B D E g s.heap := hP
  unfold fX12_counted at hf
  refine lv_aload_n hx hb dX12_counted_0 rfl (lv_at hl 0 rfl) ?_
  obtain ⟨h1, hf⟩ := hs_ck hf
  refine hs_geti (C := RX12) (T := TX12) (N := 48) hx hb hts (fun w h => List.mem_cons_of_mem _ (inlX12 w h)) hown hK.1 hP h1 (by decide) rfl 37 (by decide) (hts _ (List.mem_cons_of_mem _ wq856)) (fun _ h => h) rfl dX12_counted_1 ?_
  exact hs_iret hx hb hr hlocks rfl hK hP hS hf dX12_counted_4

theorem dX12_steps_0 : decode cX12_steps 0 = .ok (.aload_n 0, 1) := by decide +kernel
theorem dX12_steps_1 : decode cX12_steps 1 = .ok (.getfield 261, 3) := by decide +kernel
theorem dX12_steps_4 : decode cX12_steps 4 = .ok (.ireturn, 1) := by decide +kernel
abbrev wcX12_steps : List Cond := .code yX12_steps cX12_steps 1 (some .int) :: wsL_law
def fX12_steps (v0 : Nat) (g : hs_S) : Option (Int32 × hs_S) :=
  if hs_kd g v0 = 10 then
  some ((hs_I g v0 38), g)
  else none
abbrev rmX12_steps : Room := { frames := 0, cells := 0, slots := 0, locals := 0 }
set_option maxHeartbeats 4000000 in
set_option maxRecDepth 100000 in
theorem ctX12_steps (l : Launch) (B : Nat) (D : va_G) (E : Nat → ClassId) (v0 : Nat) (g : hs_S) (o : Int32 × hs_S) (hf : fX12_steps v0 g = some o) : Met l yX12_steps wcX12_steps rmX12_steps (hs_Pc B D E g [.ref (B + v0)]) (hs_Qi B D E o) (0) (0) (hs_F B) := by
  refine Met.ofW (cc := cX12_steps) (maxL := 1) (ret := (some .int)) (by decide) rfl ?_
  intro p e s m args below meth c s₁ Bd hml hv
  obtain ⟨rfl, hP, hK⟩ := hv
  have hx := Bd.exec
  have hb := Bd.bytes
  have hr := Bd.returns
  have hts := atoms_spec (ws := wcX12_steps) Bd.pre
  have hown : s.vm.findClass RX12 = some m.cls := findClass_of_methodNamed Bd.named
  have hlocks := Bd.notSynchronized
  have hS : hs_Sx B s.heap s.heap [] := va_S.rf
  have hX : hs_cx cX12_steps (some .int) 1 RX12 wcX12_steps p s m (List.toArray [.ref (B + v0)]) meth c D E := ⟨hx, hb, hr, hml, hown, hts, hlocks, hK⟩
  have hl := lv_entry ([.ref (B + v0)]) (n := 1) (Nat.le_of_ble_eq_true rfl)
  rw [lg_entry_eq]
  generalize (lg_sl ([.ref (B + v0)]) ++ List.replicate (1 - (lg_sl ([.ref (B + v0)])).length) Slot.unset).toArray = ls at hl ⊢
  have hl : lv_has ls 1 [(0, .ref (B + v0))] := hl
  have hP : hs_P B D E g s.heap := hP
  unfold fX12_steps at hf
  refine lv_aload_n hx hb dX12_steps_0 rfl (lv_at hl 0 rfl) ?_
  obtain ⟨h1, hf⟩ := hs_ck hf
  refine hs_geti (C := RX12) (T := TX12) (N := 48) hx hb hts (fun w h => List.mem_cons_of_mem _ (inlX12 w h)) hown hK.1 hP h1 (by decide) rfl 38 (by decide) (hts _ (List.mem_cons_of_mem _ wq857)) (fun _ h => h) rfl dX12_steps_1 ?_
  exact hs_iret hx hb hr hlocks rfl hK hP hS hf dX12_steps_4

theorem dX12_element_0 : decode cX12_element 0 = .ok (.iload_n 1, 1) := by decide +kernel
theorem dX12_element_1 : decode cX12_element 1 = .ok (.ifCond .lt 8, 3) := by decide +kernel
theorem dX12_element_4 : decode cX12_element 4 = .ok (.iload_n 1, 1) := by decide +kernel
theorem dX12_element_5 : decode cX12_element 5 = .ok (.iconst 3, 1) := by decide +kernel
theorem dX12_element_6 : decode cX12_element 6 = .ok (.if_icmp .le 6, 3) := by decide +kernel
theorem dX12_element_9 : decode cX12_element 9 = .ok (.bipush (-3), 2) := by decide +kernel
theorem dX12_element_11 : decode cX12_element 11 = .ok (.ireturn, 1) := by decide +kernel
theorem dX12_element_12 : decode cX12_element 12 = .ok (.iload_n 2, 1) := by decide +kernel
theorem dX12_element_13 : decode cX12_element 13 = .ok (.iconst (-1), 1) := by decide +kernel
theorem dX12_element_14 : decode cX12_element 14 = .ok (.if_icmp .ne 10, 3) := by decide +kernel
theorem dX12_element_17 : decode cX12_element 17 = .ok (.aload_n 0, 1) := by decide +kernel
theorem dX12_element_18 : decode cX12_element 18 = .ok (.getfield 96, 3) := by decide +kernel
theorem dX12_element_21 : decode cX12_element 21 = .ok (.iload_n 1, 1) := by decide +kernel
theorem dX12_element_22 : decode cX12_element 22 = .ok (.iaload, 1) := by decide +kernel
theorem dX12_element_23 : decode cX12_element 23 = .ok (.ireturn, 1) := by decide +kernel
theorem dX12_element_24 : decode cX12_element 24 = .ok (.iload_n 2, 1) := by decide +kernel
theorem dX12_element_25 : decode cX12_element 25 = .ok (.ifCond .lt 13, 3) := by decide +kernel
theorem dX12_element_28 : decode cX12_element 28 = .ok (.iload_n 2, 1) := by decide +kernel
theorem dX12_element_29 : decode cX12_element 29 = .ok (.aload_n 0, 1) := by decide +kernel
theorem dX12_element_30 : decode cX12_element 30 = .ok (.getfield 96, 3) := by decide +kernel
theorem dX12_element_33 : decode cX12_element 33 = .ok (.iload_n 1, 1) := by decide +kernel
theorem dX12_element_34 : decode cX12_element 34 = .ok (.iaload, 1) := by decide +kernel
theorem dX12_element_35 : decode cX12_element 35 = .ok (.if_icmp .lt 7, 3) := by decide +kernel
theorem dX12_element_38 : decode cX12_element 38 = .ok (.iconst (-1), 1) := by decide +kernel
theorem dX12_element_39 : decode cX12_element 39 = .ok (.goto 15, 3) := by decide +kernel
theorem dX12_element_42 : decode cX12_element 42 = .ok (.aload_n 0, 1) := by decide +kernel
theorem dX12_element_43 : decode cX12_element 43 = .ok (.getfield 99, 3) := by decide +kernel
theorem dX12_element_46 : decode cX12_element 46 = .ok (.sipush 1001, 3) := by decide +kernel
theorem dX12_element_49 : decode cX12_element 49 = .ok (.iload_n 1, 1) := by decide +kernel
theorem dX12_element_50 : decode cX12_element 50 = .ok (.imul, 1) := by decide +kernel
theorem dX12_element_51 : decode cX12_element 51 = .ok (.iload_n 2, 1) := by decide +kernel
theorem dX12_element_52 : decode cX12_element 52 = .ok (.iadd, 1) := by decide +kernel
theorem dX12_element_53 : decode cX12_element 53 = .ok (.iaload, 1) := by decide +kernel
theorem dX12_element_54 : decode cX12_element 54 = .ok (.ireturn, 1) := by decide +kernel
abbrev wcX12_element : List Cond := .code yX12_element cX12_element 3 (some .int) :: wsL_law
def jX12_element_38  (g : hs_S) : Option (Int32 × hs_S) :=
  some ((-1 : Int32), g)
def fX12_element (v0 : Nat) (v1 : Int32) (v2 : Int32) (g : hs_S) : Option (Int32 × hs_S) :=
  if v1 < 0 then (
    some ((-3 : Int32), g)
  ) else (
    if v1 ≤ (3 : Int32) then (
      if v2 = (-1 : Int32) then (
        if hs_kd g v0 = 10 then
        if ¬ (hs_R g v0 34) = 0 then
        if hs_kd g ((hs_R g v0 34) - 1) = 100 then
        if hs_in v1 (hs_ln g ((hs_R g v0 34) - 1)) = true then
        some ((hs_I g ((hs_R g v0 34) - 1) v1.toNatClampNeg), g)
        else none else none else none else none
      ) else (
        if v2 < 0 then (
          jX12_element_38 g
        ) else (
          if hs_kd g v0 = 10 then
          if ¬ (hs_R g v0 34) = 0 then
          if hs_kd g ((hs_R g v0 34) - 1) = 100 then
          if hs_in v1 (hs_ln g ((hs_R g v0 34) - 1)) = true then
          if v2 < (hs_I g ((hs_R g v0 34) - 1) v1.toNatClampNeg) then (
            if ¬ (hs_R g v0 35) = 0 then
            if hs_kd g ((hs_R g v0 35) - 1) = 100 then
            if hs_in (((1001 : Int32) * v1) + v2) (hs_ln g ((hs_R g v0 35) - 1)) = true then
            some ((hs_I g ((hs_R g v0 35) - 1) (((1001 : Int32) * v1) + v2).toNatClampNeg), g)
            else none else none else none
          ) else (
            jX12_element_38 g
          )
          else none else none else none else none
        )
      )
    ) else (
      some ((-3 : Int32), g)
    )
  )
abbrev rmX12_element : Room := { frames := 0, cells := 0, slots := 0, locals := 0 }
set_option maxHeartbeats 4000000 in
set_option maxRecDepth 100000 in
theorem wX12_element_j38 {p : Program} {l : Launch} {e : Env} {s : State} {m : MethodId} {args : Array Value} {below : List Frame} {meth : Method} {c : Code} {B : Nat} {D : va_G} {E : Nat → ClassId} (hX : hs_cx cX12_element (some .int) 3 RX12 wcX12_element p s m args meth c D E) {o : Int32 × hs_S}     {g : hs_S} {H : Heap} {locs : List Loc} {ls : Array Slot} (hf : jX12_element_38  g = some o) (hP : hs_P B D E g H) (hS : hs_Sx B s.heap H locs) (hl : lv_has ls 3 []) : W p l e rmX12_element s m args below meth c H locs 0 0 (MQ below (hs_Qi B D E o) args s 0 0 (hs_F B)) (F0 m 38 ls []) := by
  obtain ⟨hx, hb, hr, hml, hown, hts, hlocks, hK⟩ := id hX
  unfold jX12_element_38 at hf
  refine lv_iconst (v := -1) hx hb dX12_element_38 (by decide) ?_
  refine lv_goto (tgt := 54) hx hb dX12_element_39 (by decide) ?_
  exact hs_iret hx hb hr hlocks rfl hK hP hS hf dX12_element_54

set_option maxHeartbeats 4000000 in
set_option maxRecDepth 100000 in
theorem ctX12_element (l : Launch) (B : Nat) (D : va_G) (E : Nat → ClassId) (v0 : Nat) (v1 : Int32) (v2 : Int32) (g : hs_S) (o : Int32 × hs_S) (hf : fX12_element v0 v1 v2 g = some o) : Met l yX12_element wcX12_element rmX12_element (hs_Pc B D E g [.ref (B + v0), .int v1, .int v2]) (hs_Qi B D E o) (0) (0) (hs_F B) := by
  refine Met.ofW (cc := cX12_element) (maxL := 3) (ret := (some .int)) (by decide) rfl ?_
  intro p e s m args below meth c s₁ Bd hml hv
  obtain ⟨rfl, hP, hK⟩ := hv
  have hx := Bd.exec
  have hb := Bd.bytes
  have hr := Bd.returns
  have hts := atoms_spec (ws := wcX12_element) Bd.pre
  have hown : s.vm.findClass RX12 = some m.cls := findClass_of_methodNamed Bd.named
  have hlocks := Bd.notSynchronized
  have hS : hs_Sx B s.heap s.heap [] := va_S.rf
  have hX : hs_cx cX12_element (some .int) 3 RX12 wcX12_element p s m (List.toArray [.ref (B + v0), .int v1, .int v2]) meth c D E := ⟨hx, hb, hr, hml, hown, hts, hlocks, hK⟩
  have hl := lv_entry ([.ref (B + v0), .int v1, .int v2]) (n := 3) (Nat.le_of_ble_eq_true rfl)
  rw [lg_entry_eq]
  generalize (lg_sl ([.ref (B + v0), .int v1, .int v2]) ++ List.replicate (3 - (lg_sl ([.ref (B + v0), .int v1, .int v2])).length) Slot.unset).toArray = ls at hl ⊢
  have hl : lv_has ls 3 [(0, .ref (B + v0)), (1, .int v1), (2, .int v2)] := hl
  have hP : hs_P B D E g s.heap := hP
  unfold fX12_element at hf
  refine lv_iload_n hx hb dX12_element_0 rfl (lv_at hl 1 rfl) ?_
  refine lv_if_lt (tgt := 9) hx hb dX12_element_1 (by decide) (fun hc => ?_) (fun hc => ?_)
  · replace hf := hs_t hf hc
    refine lv_bipush (v := -3) hx hb dX12_element_9 (by decide) ?_
    exact hs_iret hx hb hr hlocks rfl hK hP hS hf dX12_element_11
  · replace hf := hs_f hf hc
    refine lv_iload_n hx hb dX12_element_4 rfl (lv_at hl 1 rfl) ?_
    refine lv_iconst (v := 3) hx hb dX12_element_5 (by decide) ?_
    refine lv_icmp_le (tgt := 12) hx hb dX12_element_6 (by decide) (fun hc => ?_) (fun hc => ?_)
    · replace hf := hs_t hf hc
      refine lv_iload_n hx hb dX12_element_12 rfl (lv_at hl 2 rfl) ?_
      refine lv_iconst (v := -1) hx hb dX12_element_13 (by decide) ?_
      refine lv_icmp_ne (tgt := 24) hx hb dX12_element_14 (by decide) (fun hc => ?_) (fun hc => ?_)
      · replace hf := hs_f hf hc
        refine lv_iload_n hx hb dX12_element_24 rfl (lv_at hl 2 rfl) ?_
        refine lv_if_lt (tgt := 38) hx hb dX12_element_25 (by decide) (fun hc => ?_) (fun hc => ?_)
        · replace hf := hs_t hf hc
          exact wX12_element_j38 hX hf hP hS (lv_sub hl [] rfl)
        · replace hf := hs_f hf hc
          refine lv_iload_n hx hb dX12_element_28 rfl (lv_at hl 2 rfl) ?_
          refine lv_aload_n hx hb dX12_element_29 rfl (lv_at hl 0 rfl) ?_
          obtain ⟨h1, hf⟩ := hs_ck hf
          obtain ⟨h2, hf⟩ := hs_ck hf
          refine hs_getr (C := RX12) (T := TX12) (N := 48) hx hb hts (fun w h => List.mem_cons_of_mem _ (inlX12 w h)) hown hK.1 hP h1 (by decide) rfl 34 (by decide) (hts _ (List.mem_cons_of_mem _ wq150)) (fun _ h => h) rfl h2 dX12_element_30 ?_
          refine lv_iload_n hx hb dX12_element_33 rfl (lv_at hl 1 rfl) ?_
          obtain ⟨h3, hf⟩ := hs_ck hf
          obtain ⟨h4, hf⟩ := hs_ck hf
          refine hs_iald hx hb hK.1 hP h3 h4 dX12_element_34 ?_
          refine lv_icmp_lt (tgt := 42) hx hb dX12_element_35 (by decide) (fun hc => ?_) (fun hc => ?_)
          · replace hf := hs_t hf hc
            refine lv_aload_n hx hb dX12_element_42 rfl (lv_at hl 0 rfl) ?_
            obtain ⟨h5, hf⟩ := hs_ck hf
            refine hs_getr (C := RX12) (T := TX12) (N := 48) hx hb hts (fun w h => List.mem_cons_of_mem _ (inlX12 w h)) hown hK.1 hP h1 (by decide) rfl 35 (by decide) (hts _ (List.mem_cons_of_mem _ wq151)) (fun _ h => h) rfl h5 dX12_element_43 ?_
            refine lv_sipush (v := 1001) hx hb dX12_element_46 (by decide) ?_
            refine lv_iload_n hx hb dX12_element_49 rfl (lv_at hl 1 rfl) ?_
            refine lv_imul hx hb dX12_element_50 ?_
            refine lv_iload_n hx hb dX12_element_51 rfl (lv_at hl 2 rfl) ?_
            refine lv_iadd hx hb dX12_element_52 ?_
            obtain ⟨h6, hf⟩ := hs_ck hf
            obtain ⟨h7, hf⟩ := hs_ck hf
            refine hs_iald hx hb hK.1 hP h6 h7 dX12_element_53 ?_
            exact hs_iret hx hb hr hlocks rfl hK hP hS hf dX12_element_54
          · replace hf := hs_f hf hc
            exact wX12_element_j38 hX hf hP hS (lv_sub hl [] rfl)
      · replace hf := hs_t hf hc
        refine lv_aload_n hx hb dX12_element_17 rfl (lv_at hl 0 rfl) ?_
        obtain ⟨h8, hf⟩ := hs_ck hf
        obtain ⟨h9, hf⟩ := hs_ck hf
        refine hs_getr (C := RX12) (T := TX12) (N := 48) hx hb hts (fun w h => List.mem_cons_of_mem _ (inlX12 w h)) hown hK.1 hP h8 (by decide) rfl 34 (by decide) (hts _ (List.mem_cons_of_mem _ wq150)) (fun _ h => h) rfl h9 dX12_element_18 ?_
        refine lv_iload_n hx hb dX12_element_21 rfl (lv_at hl 1 rfl) ?_
        obtain ⟨h10, hf⟩ := hs_ck hf
        obtain ⟨h11, hf⟩ := hs_ck hf
        refine hs_iald hx hb hK.1 hP h10 h11 dX12_element_22 ?_
        exact hs_iret hx hb hr hlocks rfl hK hP hS hf dX12_element_23
    · replace hf := hs_f hf hc
      refine lv_bipush (v := -3) hx hb dX12_element_9 (by decide) ?_
      exact hs_iret hx hb hr hlocks rfl hK hP hS hf dX12_element_11

