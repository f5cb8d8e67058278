theorem dX6_act_0 : decode cX6_act 0 = .ok (.iload_n 2, 1) := by decide +kernel
theorem dX6_act_1 : decode cX6_act 1 = .ok (.lookupswitch 174 #[(0, 83), (16, 85), (17, 96), (21, 116), (54, 130), (87, 144), (89, 151), (116, 161), (191, 172)], 83) := by decide +kernel
theorem dX6_act_84 : decode cX6_act 84 = .ok (.iconst 0, 1) := by decide +kernel
theorem dX6_act_85 : decode cX6_act 85 = .ok (.ireturn, 1) := by decide +kernel
theorem dX6_act_86 : decode cX6_act 86 = .ok (.aload_n 1, 1) := by decide +kernel
theorem dX6_act_87 : decode cX6_act 87 = .ok (.aload_n 1, 1) := by decide +kernel
theorem dX6_act_88 : decode cX6_act 88 = .ok (.invokevirtual 135, 3) := by decide +kernel
theorem dX6_act_91 : decode cX6_act 91 = .ok (.i2b, 1) := by decide +kernel
theorem dX6_act_92 : decode cX6_act 92 = .ok (.invokevirtual 138, 3) := by decide +kernel
theorem dX6_act_95 : decode cX6_act 95 = .ok (.iconst 0, 1) := by decide +kernel
theorem dX6_act_96 : decode cX6_act 96 = .ok (.ireturn, 1) := by decide +kernel
theorem dX6_act_97 : decode cX6_act 97 = .ok (.aload_n 1, 1) := by decide +kernel
theorem dX6_act_98 : decode cX6_act 98 = .ok (.aload_n 1, 1) := by decide +kernel
theorem dX6_act_99 : decode cX6_act 99 = .ok (.getfield 66, 3) := by decide +kernel
theorem dX6_act_102 : decode cX6_act 102 = .ok (.aload_n 1, 1) := by decide +kernel
theorem dX6_act_103 : decode cX6_act 103 = .ok (.getfield 89, 3) := by decide +kernel
theorem dX6_act_106 : decode cX6_act 106 = .ok (.iconst 1, 1) := by decide +kernel
theorem dX6_act_107 : decode cX6_act 107 = .ok (.iadd, 1) := by decide +kernel
theorem dX6_act_108 : decode cX6_act 108 = .ok (.invokevirtual 158, 3) := by decide +kernel
theorem dX6_act_111 : decode cX6_act 111 = .ok (.i2s, 1) := by decide +kernel
theorem dX6_act_112 : decode cX6_act 112 = .ok (.invokevirtual 138, 3) := by decide +kernel
theorem dX6_act_115 : decode cX6_act 115 = .ok (.iconst 0, 1) := by decide +kernel
theorem dX6_act_116 : decode cX6_act 116 = .ok (.ireturn, 1) := by decide +kernel
theorem dX6_act_117 : decode cX6_act 117 = .ok (.aload_n 1, 1) := by decide +kernel
theorem dX6_act_118 : decode cX6_act 118 = .ok (.aload_n 1, 1) := by decide +kernel
theorem dX6_act_119 : decode cX6_act 119 = .ok (.aload_n 1, 1) := by decide +kernel
theorem dX6_act_120 : decode cX6_act 120 = .ok (.invokevirtual 135, 3) := by decide +kernel
theorem dX6_act_123 : decode cX6_act 123 = .ok (.invokevirtual 161, 3) := by decide +kernel
theorem dX6_act_126 : decode cX6_act 126 = .ok (.invokevirtual 138, 3) := by decide +kernel
theorem dX6_act_129 : decode cX6_act 129 = .ok (.iconst 0, 1) := by decide +kernel
theorem dX6_act_130 : decode cX6_act 130 = .ok (.ireturn, 1) := by decide +kernel
theorem dX6_act_131 : decode cX6_act 131 = .ok (.aload_n 1, 1) := by decide +kernel
theorem dX6_act_132 : decode cX6_act 132 = .ok (.aload_n 1, 1) := by decide +kernel
theorem dX6_act_133 : decode cX6_act 133 = .ok (.invokevirtual 135, 3) := by decide +kernel
theorem dX6_act_136 : decode cX6_act 136 = .ok (.aload_n 1, 1) := by decide +kernel
theorem dX6_act_137 : decode cX6_act 137 = .ok (.invokevirtual 112, 3) := by decide +kernel
theorem dX6_act_140 : decode cX6_act 140 = .ok (.invokevirtual 74, 3) := by decide +kernel
theorem dX6_act_143 : decode cX6_act 143 = .ok (.iconst 0, 1) := by decide +kernel
theorem dX6_act_144 : decode cX6_act 144 = .ok (.ireturn, 1) := by decide +kernel
theorem dX6_act_145 : decode cX6_act 145 = .ok (.aload_n 1, 1) := by decide +kernel
theorem dX6_act_146 : decode cX6_act 146 = .ok (.invokevirtual 112, 3) := by decide +kernel
theorem dX6_act_149 : decode cX6_act 149 = .ok (.pop, 1) := by decide +kernel
theorem dX6_act_150 : decode cX6_act 150 = .ok (.iconst 0, 1) := by decide +kernel
theorem dX6_act_151 : decode cX6_act 151 = .ok (.ireturn, 1) := by decide +kernel
theorem dX6_act_152 : decode cX6_act 152 = .ok (.aload_n 1, 1) := by decide +kernel
theorem dX6_act_153 : decode cX6_act 153 = .ok (.aload_n 1, 1) := by decide +kernel
theorem dX6_act_154 : decode cX6_act 154 = .ok (.invokevirtual 100, 3) := by decide +kernel
theorem dX6_act_157 : decode cX6_act 157 = .ok (.invokevirtual 138, 3) := by decide +kernel
theorem dX6_act_160 : decode cX6_act 160 = .ok (.iconst 0, 1) := by decide +kernel
theorem dX6_act_161 : decode cX6_act 161 = .ok (.ireturn, 1) := by decide +kernel
theorem dX6_act_162 : decode cX6_act 162 = .ok (.aload_n 1, 1) := by decide +kernel
theorem dX6_act_163 : decode cX6_act 163 = .ok (.aload_n 1, 1) := by decide +kernel
theorem dX6_act_164 : decode cX6_act 164 = .ok (.invokevirtual 112, 3) := by decide +kernel
theorem dX6_act_167 : decode cX6_act 167 = .ok (.ineg, 1) := by decide +kernel
theorem dX6_act_168 : decode cX6_act 168 = .ok (.invokevirtual 138, 3) := by decide +kernel
theorem dX6_act_171 : decode cX6_act 171 = .ok (.iconst 0, 1) := by decide +kernel
theorem dX6_act_172 : decode cX6_act 172 = .ok (.ireturn, 1) := by decide +kernel
theorem dX6_act_173 : decode cX6_act 173 = .ok (.iconst 4, 1) := by decide +kernel
theorem dX6_act_174 : decode cX6_act 174 = .ok (.ireturn, 1) := by decide +kernel
theorem dX6_act_175 : decode cX6_act 175 = .ok (.iload_n 2, 1) := by decide +kernel
theorem dX6_act_176 : decode cX6_act 176 = .ok (.invokestatic 164, 3) := by decide +kernel
theorem dX6_act_179 : decode cX6_act 179 = .ok (.ifCond .eq 12, 3) := by decide +kernel
theorem dX6_act_182 : decode cX6_act 182 = .ok (.aload_n 0, 1) := by decide +kernel
theorem dX6_act_183 : decode cX6_act 183 = .ok (.aload_n 1, 1) := by decide +kernel
theorem dX6_act_184 : decode cX6_act 184 = .ok (.iload_n 2, 1) := by decide +kernel
theorem dX6_act_185 : decode cX6_act 185 = .ok (.invokevirtual 167, 3) := by decide +kernel
theorem dX6_act_188 : decode cX6_act 188 = .ok (.goto 9, 3) := by decide +kernel
theorem dX6_act_191 : decode cX6_act 191 = .ok (.aload_n 0, 1) := by decide +kernel
theorem dX6_act_192 : decode cX6_act 192 = .ok (.aload_n 1, 1) := by decide +kernel
theorem dX6_act_193 : decode cX6_act 193 = .ok (.iload_n 2, 1) := by decide +kernel
theorem dX6_act_194 : decode cX6_act 194 = .ok (.invokevirtual 170, 3) := by decide +kernel
theorem dX6_act_197 : decode cX6_act 197 = .ok (.ireturn, 1) := by decide +kernel
abbrev wcX6_act : List Cond := .code yX6_act cX6_act 3 (some .int) :: wsL_law
def fX6_act (v0 : Nat) (v1 : Nat) (v2 : Int32) (g : hs_S) : Option (Int32 × hs_S) :=
  if v2 = (0 : Int32) then (
    some ((0 : Int32), g)
  ) else (
  if v2 = (16 : Int32) then (
    if hs_kd g v1 = 3 then
    hs_bd (fX3_operand v1 g) fun r3 g2 =>
    if hs_kd g2 v1 = 3 then
    hs_bv (fX3_push v1 (r3.toInt8.toInt32) g2) fun g6 =>
    some ((0 : Int32), g6)
    else none else none
  ) else (
  if v2 = (17 : Int32) then (
    if hs_kd g v1 = 3 then
    if ¬ (hs_R g v1 3) = 0 then
    if hs_kd g ((hs_R g v1 3) - 1) = 6 then
    hs_bd (fX7_pairAt ((hs_R g v1 3) - 1) ((hs_I g v1 4) + (1 : Int32)) g) fun r13 g12 =>
    if hs_kd g12 v1 = 3 then
    hs_bv (fX3_push v1 (r13.toInt16.toInt32) g12) fun g16 =>
    some ((0 : Int32), g16)
    else none else none else none else none
  ) else (
  if v2 = (21 : Int32) then (
    if hs_kd g v1 = 3 then
    hs_bd (fX3_operand v1 g) fun r21 g20 =>
    if hs_kd g20 v1 = 3 then
    hs_bd (fX3_local v1 r21 g20) fun r25 g24 =>
    if hs_kd g24 v1 = 3 then
    hs_bv (fX3_push v1 r25 g24) fun g28 =>
    some ((0 : Int32), g28)
    else none else none else none
  ) else (
  if v2 = (54 : Int32) then (
    if hs_kd g v1 = 3 then
    hs_bd (fX3_operand v1 g) fun r33 g32 =>
    if hs_kd g32 v1 = 3 then
    hs_bd (fX3_pop v1 g32) fun r37 g36 =>
    if hs_kd g36 v1 = 3 then
    hs_bv (fX3_setLocal v1 r33 r37 g36) fun g40 =>
    some ((0 : Int32), g40)
    else none else none else none
  ) else (
  if v2 = (87 : Int32) then (
    if hs_kd g v1 = 3 then
    hs_bd (fX3_pop v1 g) fun r45 g44 =>
    some ((0 : Int32), g44)
    else none
  ) else (
  if v2 = (89 : Int32) then (
    if hs_kd g v1 = 3 then
    hs_bd (fX3_peek v1 g) fun r49 g48 =>
    if hs_kd g48 v1 = 3 then
    hs_bv (fX3_push v1 r49 g48) fun g52 =>
    some ((0 : Int32), g52)
    else none else none
  ) else (
  if v2 = (116 : Int32) then (
    if hs_kd g v1 = 3 then
    hs_bd (fX3_pop v1 g) fun r57 g56 =>
    if hs_kd g56 v1 = 3 then
    hs_bv (fX3_push v1 (-r57) g56) fun g60 =>
    some ((0 : Int32), g60)
    else none else none
  ) else (
  if v2 = (191 : Int32) then (
    some ((4 : Int32), g)
  ) else (
    hs_bd (fX4_isOfArray v2 g) fun r64 g63 =>
    if r64 = 0 then (
      if hs_kd g63 v0 = 5 then
      hs_bd (fX6_actOnTwo v0 v1 v2 g63) fun r68 g67 =>
      some (r68, g67)
      else none
    ) else (
      if hs_kd g63 v0 = 5 then
      hs_bd (fX6_actOnArray v0 v1 v2 g63) fun r72 g71 =>
      some (r72, g71)
      else none
    )
  )))))))))
abbrev rmX6_act : Room := { frames := 4, cells := 0, slots := 0, locals := 93 }
set_option maxHeartbeats 4000000 in
set_option maxRecDepth 100000 in
theorem ctX6_act (l : Launch) (B : Nat) (D : va_G) (E : Nat → ClassId) (v0 : Nat) (v1 : Nat) (v2 : Int32) (g : hs_S) (o : Int32 × hs_S) (hf : fX6_act v0 v1 v2 g = some o) : Met l yX6_act wcX6_act rmX6_act (hs_Pc B D E g [.ref (B + v0), .ref (B + v1), .int v2]) (hs_Qi B D E o) (0) (0) (hs_F B) := by
  refine Met.ofW (cc := cX6_act) (maxL := 3) (ret := (some .int)) (by decide) rfl ?_
  intro p e s m args below meth c s₁ Bd hml hv
  obtain ⟨rfl, hP, hK⟩ := hv
  have hx := Bd.exec
  have hb := Bd.bytes
  have hr := Bd.returns
  have hts := atoms_spec (ws := wcX6_act) Bd.pre
  have hown : s.vm.findClass RX6 = some m.cls := findClass_of_methodNamed Bd.named
  have hlocks := Bd.notSynchronized
  have hS : hs_Sx B s.heap s.heap [] := va_S.rf
  have hX : hs_cx cX6_act (some .int) 3 RX6 wcX6_act p s m (List.toArray [.ref (B + v0), .ref (B + v1), .int v2]) meth c D E := ⟨hx, hb, hr, hml, hown, hts, hlocks, hK⟩
  have hl := lv_entry ([.ref (B + v0), .ref (B + v1), .int v2]) (n := 3) (Nat.le_of_ble_eq_true rfl)
  rw [lg_entry_eq]
  generalize (lg_sl ([.ref (B + v0), .ref (B + v1), .int v2]) ++ List.replicate (3 - (lg_sl ([.ref (B + v0), .ref (B + v1), .int v2])).length) Slot.unset).toArray = ls at hl ⊢
  have hl : lv_has ls 3 [(0, .ref (B + v0)), (1, .ref (B + v1)), (2, .int v2)] := hl
  have hP : hs_P B D E g s.heap := hP
  unfold fX6_act at hf
  refine lv_iload_n hx hb dX6_act_0 rfl (lv_at hl 2 rfl) ?_
  by_cases hc : v2 = (0 : Int32)
  · replace hf := hs_t hf hc
    refine lv_lookup (off := 83) (tgt := 84) hx hb dX6_act_1 (by decide +kernel) (by rw [hc]; first | done | decide +kernel) (by decide) ?_
    refine lv_iconst (v := 0) hx hb dX6_act_84 (by decide) ?_
    exact hs_iret hx hb hr hlocks rfl hK hP hS hf dX6_act_85
  have hn0 := hc
  replace hf := hs_f hf hc
  clear hc
  by_cases hc : v2 = (16 : Int32)
  · replace hf := hs_t hf hc
    refine lv_lookup (off := 85) (tgt := 86) hx hb dX6_act_1 (by decide +kernel) (by rw [hc]; first | done | decide +kernel) (by decide) ?_
    refine lv_aload_n hx hb dX6_act_86 rfl (lv_at hl 1 rfl) ?_
    refine lv_aload_n hx hb dX6_act_87 rfl (lv_at hl 1 rfl) ?_
    obtain ⟨h1, hf⟩ := hs_ck hf
    obtain ⟨r3, g2, h4, hf⟩ := hs_bd_some hf
    refine hs_calli (va_runV (As := []) (rest := [.ref (B + v1)]) ⟨hx, hb, hml, hown, hts⟩ (ctX3_operand l B D E v1 g _ h4) (cwV 0 hts (hs_gV (fun _ h => List.mem_cons_of_mem _ h) wq763 wq764 wq765 wq101 wq766) rfl rfl rfl (by decide +kernel) ⟨Nat.le_of_ble_eq_true rfl, Nat.le_of_ble_eq_true rfl⟩) (hs_preV (r := (RX3, TX3, 5)) hP hK h1 (by decide) rfl) rfl rfl hl.1 rfl (lv_room (Nat.le_of_ble_eq_true rfl)) dX6_act_88 ⟨(Nat.le_of_ble_eq_true rfl), (Nat.le_of_ble_eq_true rfl)⟩) hS (fun H locs hP hS => ?_)
    refine lv_i2b hx hb dX6_act_91 rfl ?_
    obtain ⟨h5, hf⟩ := hs_ck hf
    obtain ⟨g6, h8, hf⟩ := hs_bv_some hf
    refine hs_callv (va_runV (As := [.int (r3.toInt8.toInt32)]) (rest := []) ⟨hx, hb, hml, hown, hts⟩ (ctX3_push l B D E v1 (r3.toInt8.toInt32) g2 _ h8) (cwV 1 hts (hs_gV (fun _ h => List.mem_cons_of_mem _ h) wq775 wq776 wq777 wq101 wq778) rfl rfl rfl (by decide +kernel) ⟨Nat.le_of_ble_eq_true rfl, Nat.le_of_ble_eq_true rfl⟩) (hs_preV (r := (RX3, TX3, 5)) hP hK h5 (by decide) rfl) rfl rfl hl.1 rfl (lv_room (Nat.le_of_ble_eq_true rfl)) dX6_act_92 ⟨(Nat.le_of_ble_eq_true rfl), (Nat.le_of_ble_eq_true rfl)⟩) hS (fun H locs hP hS => ?_)
    refine lv_iconst (v := 0) hx hb dX6_act_95 (by decide) ?_
    exact hs_iret hx hb hr hlocks rfl hK hP hS hf dX6_act_96
  have hn1 := hc
  replace hf := hs_f hf hc
  clear hc
  by_cases hc : v2 = (17 : Int32)
  · replace hf := hs_t hf hc
    refine lv_lookup (off := 96) (tgt := 97) hx hb dX6_act_1 (by decide +kernel) (by rw [hc]; first | done | decide +kernel) (by decide) ?_
    refine lv_aload_n hx hb dX6_act_97 rfl (lv_at hl 1 rfl) ?_
    refine lv_aload_n hx hb dX6_act_98 rfl (lv_at hl 1 rfl) ?_
    obtain ⟨h9, hf⟩ := hs_ck hf
    obtain ⟨h10, hf⟩ := hs_ck hf
    refine hs_getr (C := RX3) (T := TX3) (N := 5) hx hb hts (fun w h => List.mem_cons_of_mem _ (inlX3 w h)) hown hK.1 hP h9 (by decide) rfl 3 (by decide) (hts _ (List.mem_cons_of_mem _ wq699)) (fun _ h => h) rfl h10 dX6_act_99 ?_
    refine lv_aload_n hx hb dX6_act_102 rfl (lv_at hl 1 rfl) ?_
    refine hs_geti (C := RX3) (T := TX3) (N := 5) hx hb hts (fun w h => List.mem_cons_of_mem _ (inlX3 w h)) hown hK.1 hP h9 (by decide) rfl 4 (by decide) (hts _ (List.mem_cons_of_mem _ wq735)) (fun _ h => h) rfl dX6_act_103 ?_
    refine lv_iconst (v := 1) hx hb dX6_act_106 (by decide) ?_
    refine lv_iadd hx hb dX6_act_107 ?_
    obtain ⟨h11, hf⟩ := hs_ck hf
    obtain ⟨r13, g12, h14, hf⟩ := hs_bd_some hf
    refine hs_calli (va_runV (As := [.int ((hs_I g v1 4) + (1 : Int32))]) (rest := [.ref (B + v1)]) ⟨hx, hb, hml, hown, hts⟩ (ctX7_pairAt l B D E ((hs_R g v1 3) - 1) ((hs_I g v1 4) + (1 : Int32)) g _ h14) (cwV 1 hts (hs_gV (fun _ h => List.mem_cons_of_mem _ h) wq794 wq747 wq748 wq43 wq749) rfl rfl rfl (by decide +kernel) ⟨Nat.le_of_ble_eq_true rfl, Nat.le_of_ble_eq_true rfl⟩) (hs_preV (r := (RX7, TX7, 11)) hP hK h11 (by decide) rfl) rfl rfl hl.1 rfl (lv_room (Nat.le_of_ble_eq_true rfl)) dX6_act_108 ⟨(Nat.le_of_ble_eq_true rfl), (Nat.le_of_ble_eq_true rfl)⟩) hS (fun H locs hP hS => ?_)
    refine lv_i2s hx hb dX6_act_111 rfl ?_
    obtain ⟨h15, hf⟩ := hs_ck hf
    obtain ⟨g16, h18, hf⟩ := hs_bv_some hf
    refine hs_callv (va_runV (As := [.int (r13.toInt16.toInt32)]) (rest := []) ⟨hx, hb, hml, hown, hts⟩ (ctX3_push l B D E v1 (r13.toInt16.toInt32) g12 _ h18) (cwV 1 hts (hs_gV (fun _ h => List.mem_cons_of_mem _ h) wq775 wq776 wq777 wq101 wq778) rfl rfl rfl (by decide +kernel) ⟨Nat.le_of_ble_eq_true rfl, Nat.le_of_ble_eq_true rfl⟩) (hs_preV (r := (RX3, TX3, 5)) hP hK h15 (by decide) rfl) rfl rfl hl.1 rfl (lv_room (Nat.le_of_ble_eq_true rfl)) dX6_act_112 ⟨(Nat.le_of_ble_eq_true rfl), (Nat.le_of_ble_eq_true rfl)⟩) hS (fun H locs hP hS => ?_)
    refine lv_iconst (v := 0) hx hb dX6_act_115 (by decide) ?_
    exact hs_iret hx hb hr hlocks rfl hK hP hS hf dX6_act_116
  have hn2 := hc
  replace hf := hs_f hf hc
  clear hc
  by_cases hc : v2 = (21 : Int32)
  · replace hf := hs_t hf hc
    refine lv_lookup (off := 116) (tgt := 117) hx hb dX6_act_1 (by decide +kernel) (by rw [hc]; first | done | decide +kernel) (by decide) ?_
    refine lv_aload_n hx hb dX6_act_117 rfl (lv_at hl 1 rfl) ?_
    refine lv_aload_n hx hb dX6_act_118 rfl (lv_at hl 1 rfl) ?_
    refine lv_aload_n hx hb dX6_act_119 rfl (lv_at hl 1 rfl) ?_
    obtain ⟨h19, hf⟩ := hs_ck hf
    obtain ⟨r21, g20, h22, hf⟩ := hs_bd_some hf
    refine hs_calli (va_runV (As := []) (rest := [.ref (B + v1), .ref (B + v1)]) ⟨hx, hb, hml, hown, hts⟩ (ctX3_operand l B D E v1 g _ h22) (cwV 0 hts (hs_gV (fun _ h => List.mem_cons_of_mem _ h) wq763 wq764 wq765 wq101 wq766) rfl rfl rfl (by decide +kernel) ⟨Nat.le_of_ble_eq_true rfl, Nat.le_of_ble_eq_true rfl⟩) (hs_preV (r := (RX3, TX3, 5)) hP hK h19 (by decide) rfl) rfl rfl hl.1 rfl (lv_room (Nat.le_of_ble_eq_true rfl)) dX6_act_120 ⟨(Nat.le_of_ble_eq_true rfl), (Nat.le_of_ble_eq_true rfl)⟩) hS (fun H locs hP hS => ?_)
    obtain ⟨h23, hf⟩ := hs_ck hf
    obtain ⟨r25, g24, h26, hf⟩ := hs_bd_some hf
    refine hs_calli (va_runV (As := [.int r21]) (rest := [.ref (B + v1)]) ⟨hx, hb, hml, hown, hts⟩ (ctX3_local l B D E v1 r21 g20 _ h26) (cwV 1 hts (hs_gV (fun _ h => List.mem_cons_of_mem _ h) wq795 wq796 wq797 wq101 wq798) rfl rfl rfl (by decide +kernel) ⟨Nat.le_of_ble_eq_true rfl, Nat.le_of_ble_eq_true rfl⟩) (hs_preV (r := (RX3, TX3, 5)) hP hK h23 (by decide) rfl) rfl rfl hl.1 rfl (lv_room (Nat.le_of_ble_eq_true rfl)) dX6_act_123 ⟨(Nat.le_of_ble_eq_true rfl), (Nat.le_of_ble_eq_true rfl)⟩) hS (fun H locs hP hS => ?_)
    obtain ⟨h27, hf⟩ := hs_ck hf
    obtain ⟨g28, h30, hf⟩ := hs_bv_some hf
    refine hs_callv (va_runV (As := [.int r25]) (rest := []) ⟨hx, hb, hml, hown, hts⟩ (ctX3_push l B D E v1 r25 g24 _ h30) (cwV 1 hts (hs_gV (fun _ h => List.mem_cons_of_mem _ h) wq775 wq776 wq777 wq101 wq778) rfl rfl rfl (by decide +kernel) ⟨Nat.le_of_ble_eq_true rfl, Nat.le_of_ble_eq_true rfl⟩) (hs_preV (r := (RX3, TX3, 5)) hP hK h27 (by decide) rfl) rfl rfl hl.1 rfl (lv_room (Nat.le_of_ble_eq_true rfl)) dX6_act_126 ⟨(Nat.le_of_ble_eq_true rfl), (Nat.le_of_ble_eq_true rfl)⟩) hS (fun H locs hP hS => ?_)
    refine lv_iconst (v := 0) hx hb dX6_act_129 (by decide) ?_
    exact hs_iret hx hb hr hlocks rfl hK hP hS hf dX6_act_130
  have hn3 := hc
  replace hf := hs_f hf hc
  clear hc
  by_cases hc : v2 = (54 : Int32)
  · replace hf := hs_t hf hc
    refine lv_lookup (off := 130) (tgt := 131) hx hb dX6_act_1 (by decide +kernel) (by rw [hc]; first | done | decide +kernel) (by decide) ?_
    refine lv_aload_n hx hb dX6_act_131 rfl (lv_at hl 1 rfl) ?_
    refine lv_aload_n hx hb dX6_act_132 rfl (lv_at hl 1 rfl) ?_
    obtain ⟨h31, hf⟩ := hs_ck hf
    obtain ⟨r33, g32, h34, hf⟩ := hs_bd_some hf
    refine hs_calli (va_runV (As := []) (rest := [.ref (B + v1)]) ⟨hx, hb, hml, hown, hts⟩ (ctX3_operand l B D E v1 g _ h34) (cwV 0 hts (hs_gV (fun _ h => List.mem_cons_of_mem _ h) wq763 wq764 wq765 wq101 wq766) rfl rfl rfl (by decide +kernel) ⟨Nat.le_of_ble_eq_true rfl, Nat.le_of_ble_eq_true rfl⟩) (hs_preV (r := (RX3, TX3, 5)) hP hK h31 (by decide) rfl) rfl rfl hl.1 rfl (lv_room (Nat.le_of_ble_eq_true rfl)) dX6_act_133 ⟨(Nat.le_of_ble_eq_true rfl), (Nat.le_of_ble_eq_true rfl)⟩) hS (fun H locs hP hS => ?_)
    refine lv_aload_n hx hb dX6_act_136 rfl (lv_at hl 1 rfl) ?_
    obtain ⟨h35, hf⟩ := hs_ck hf
    obtain ⟨r37, g36, h38, hf⟩ := hs_bd_some hf
    refine hs_calli (va_runV (As := []) (rest := [.int r33, .ref (B + v1)]) ⟨hx, hb, hml, hown, hts⟩ (ctX3_pop l B D E v1 g32 _ h38) (cwV 0 hts (hs_gV (fun _ h => List.mem_cons_of_mem _ h) wq767 wq768 wq769 wq101 wq770) rfl rfl rfl (by decide +kernel) ⟨Nat.le_of_ble_eq_true rfl, Nat.le_of_ble_eq_true rfl⟩) (hs_preV (r := (RX3, TX3, 5)) hP hK h35 (by decide) rfl) rfl rfl hl.1 rfl (lv_room (Nat.le_of_ble_eq_true rfl)) dX6_act_137 ⟨(Nat.le_of_ble_eq_true rfl), (Nat.le_of_ble_eq_true rfl)⟩) hS (fun H locs hP hS => ?_)
    obtain ⟨h39, hf⟩ := hs_ck hf
    obtain ⟨g40, h42, hf⟩ := hs_bv_some hf
    refine hs_callv (va_runV (As := [.int r33, .int r37]) (rest := []) ⟨hx, hb, hml, hown, hts⟩ (ctX3_setLocal l B D E v1 r33 r37 g36 _ h42) (cwV 2 hts (hs_gV (fun _ h => List.mem_cons_of_mem _ h) wq726 wq727 wq728 wq101 wq729) rfl rfl rfl (by decide +kernel) ⟨Nat.le_of_ble_eq_true rfl, Nat.le_of_ble_eq_true rfl⟩) (hs_preV (r := (RX3, TX3, 5)) hP hK h39 (by decide) rfl) rfl rfl hl.1 rfl (lv_room (Nat.le_of_ble_eq_true rfl)) dX6_act_140 ⟨(Nat.le_of_ble_eq_true rfl), (Nat.le_of_ble_eq_true rfl)⟩) hS (fun H locs hP hS => ?_)
    refine lv_iconst (v := 0) hx hb dX6_act_143 (by decide) ?_
    exact hs_iret hx hb hr hlocks rfl hK hP hS hf dX6_act_144
  have hn4 := hc
  replace hf := hs_f hf hc
  clear hc
  by_cases hc : v2 = (87 : Int32)
  · replace hf := hs_t hf hc
    refine lv_lookup (off := 144) (tgt := 145) hx hb dX6_act_1 (by decide +kernel) (by rw [hc]; first | done | decide +kernel) (by decide) ?_
    refine lv_aload_n hx hb dX6_act_145 rfl (lv_at hl 1 rfl) ?_
    obtain ⟨h43, hf⟩ := hs_ck hf
    obtain ⟨r45, g44, h46, hf⟩ := hs_bd_some hf
    refine hs_calli (va_runV (As := []) (rest := []) ⟨hx, hb, hml, hown, hts⟩ (ctX3_pop l B D E v1 g _ h46) (cwV 0 hts (hs_gV (fun _ h => List.mem_cons_of_mem _ h) wq767 wq768 wq769 wq101 wq770) rfl rfl rfl (by decide +kernel) ⟨Nat.le_of_ble_eq_true rfl, Nat.le_of_ble_eq_true rfl⟩) (hs_preV (r := (RX3, TX3, 5)) hP hK h43 (by decide) rfl) rfl rfl hl.1 rfl (lv_room (Nat.le_of_ble_eq_true rfl)) dX6_act_146 ⟨(Nat.le_of_ble_eq_true rfl), (Nat.le_of_ble_eq_true rfl)⟩) hS (fun H locs hP hS => ?_)
    refine lv_pop hx hb dX6_act_149 rfl ?_
    refine lv_iconst (v := 0) hx hb dX6_act_150 (by decide) ?_
    exact hs_iret hx hb hr hlocks rfl hK hP hS hf dX6_act_151
  have hn5 := hc
  replace hf := hs_f hf hc
  clear hc
  by_cases hc : v2 = (89 : Int32)
  · replace hf := hs_t hf hc
    refine lv_lookup (off := 151) (tgt := 152) hx hb dX6_act_1 (by decide +kernel) (by rw [hc]; first | done | decide +kernel) (by decide) ?_
    refine lv_aload_n hx hb dX6_act_152 rfl (lv_at hl 1 rfl) ?_
    refine lv_aload_n hx hb dX6_act_153 rfl (lv_at hl 1 rfl) ?_
    obtain ⟨h47, hf⟩ := hs_ck hf
    obtain ⟨r49, g48, h50, hf⟩ := hs_bd_some hf
    refine hs_calli (va_runV (As := []) (rest := [.ref (B + v1)]) ⟨hx, hb, hml, hown, hts⟩ (ctX3_peek l B D E v1 g _ h50) (cwV 0 hts (hs_gV (fun _ h => List.mem_cons_of_mem _ h) wq754 wq755 wq756 wq101 wq757) rfl rfl rfl (by decide +kernel) ⟨Nat.le_of_ble_eq_true rfl, Nat.le_of_ble_eq_true rfl⟩) (hs_preV (r := (RX3, TX3, 5)) hP hK h47 (by decide) rfl) rfl rfl hl.1 rfl (lv_room (Nat.le_of_ble_eq_true rfl)) dX6_act_154 ⟨(Nat.le_of_ble_eq_true rfl), (Nat.le_of_ble_eq_true rfl)⟩) hS (fun H locs hP hS => ?_)
    obtain ⟨h51, hf⟩ := hs_ck hf
    obtain ⟨g52, h54, hf⟩ := hs_bv_some hf
    refine hs_callv (va_runV (As := [.int r49]) (rest := []) ⟨hx, hb, hml, hown, hts⟩ (ctX3_push l B D E v1 r49 g48 _ h54) (cwV 1 hts (hs_gV (fun _ h => List.mem_cons_of_mem _ h) wq775 wq776 wq777 wq101 wq778) rfl rfl rfl (by decide +kernel) ⟨Nat.le_of_ble_eq_true rfl, Nat.le_of_ble_eq_true rfl⟩) (hs_preV (r := (RX3, TX3, 5)) hP hK h51 (by decide) rfl) rfl rfl hl.1 rfl (lv_room (Nat.le_of_ble_eq_true rfl)) dX6_act_157 ⟨(Nat.le_of_ble_eq_true rfl), (Nat.le_of_ble_eq_true rfl)⟩) hS (fun H locs hP hS => ?_)
    refine lv_iconst (v := 0) hx hb dX6_act_160 (by decide) ?_
    exact hs_iret hx hb hr hlocks rfl hK hP hS hf dX6_act_161
  have hn6 := hc
  replace hf := hs_f hf hc
  clear hc
  by_cases hc : v2 = (116 : Int32)
  · replace hf := hs_t hf hc
    refine lv_lookup (off := 161) (tgt := 162) hx hb dX6_act_1 (by decide +kernel) (by rw [hc]; first | done | decide +kernel) (by decide) ?_
    refine lv_aload_n hx hb dX6_act_162 rfl (lv_at hl 1 rfl) ?_
    refine lv_aload_n hx hb dX6_act_163 rfl (lv_at hl 1 rfl) ?_
    obtain ⟨h55, hf⟩ := hs_ck hf
    obtain ⟨r57, g56, h58, hf⟩ := hs_bd_some hf
    refine hs_calli (va_runV (As := []) (rest := [.ref (B + v1)]) ⟨hx, hb, hml, hown, hts⟩ (ctX3_pop l B D E v1 g _ h58) (cwV 0 hts (hs_gV (fun _ h => List.mem_cons_of_mem _ h) wq767 wq768 wq769 wq101 wq770) rfl rfl rfl (by decide +kernel) ⟨Nat.le_of_ble_eq_true rfl, Nat.le_of_ble_eq_true rfl⟩) (hs_preV (r := (RX3, TX3, 5)) hP hK h55 (by decide) rfl) rfl rfl hl.1 rfl (lv_room (Nat.le_of_ble_eq_true rfl)) dX6_act_164 ⟨(Nat.le_of_ble_eq_true rfl), (Nat.le_of_ble_eq_true rfl)⟩) hS (fun H locs hP hS => ?_)
    refine lv_ineg hx hb dX6_act_167 ?_
    obtain ⟨h59, hf⟩ := hs_ck hf
    obtain ⟨g60, h62, hf⟩ := hs_bv_some hf
    refine hs_callv (va_runV (As := [.int (-r57)]) (rest := []) ⟨hx, hb, hml, hown, hts⟩ (ctX3_push l B D E v1 (-r57) g56 _ h62) (cwV 1 hts (hs_gV (fun _ h => List.mem_cons_of_mem _ h) wq775 wq776 wq777 wq101 wq778) rfl rfl rfl (by decide +kernel) ⟨Nat.le_of_ble_eq_true rfl, Nat.le_of_ble_eq_true rfl⟩) (hs_preV (r := (RX3, TX3, 5)) hP hK h59 (by decide) rfl) rfl rfl hl.1 rfl (lv_room (Nat.le_of_ble_eq_true rfl)) dX6_act_168 ⟨(Nat.le_of_ble_eq_true rfl), (Nat.le_of_ble_eq_true rfl)⟩) hS (fun H locs hP hS => ?_)
    refine lv_iconst (v := 0) hx hb dX6_act_171 (by decide) ?_
    exact hs_iret hx hb hr hlocks rfl hK hP hS hf dX6_act_172
  have hn7 := hc
  replace hf := hs_f hf hc
  clear hc
  by_cases hc : v2 = (191 : Int32)
  · replace hf := hs_t hf hc
    refine lv_lookup (off := 172) (tgt := 173) hx hb dX6_act_1 (by decide +kernel) (by rw [hc]; first | done | decide +kernel) (by decide) ?_
    refine lv_iconst (v := 4) hx hb dX6_act_173 (by decide) ?_
    exact hs_iret hx hb hr hlocks rfl hK hP hS hf dX6_act_174
  have hn8 := hc
  replace hf := hs_f hf hc
  clear hc
  refine lv_lookup (off := 174) (tgt := 175) hx hb dX6_act_1 (by decide +kernel) (by simp only [Array.toList]; rw [lv_osw (a := 0) hn0 rfl, lv_osw (a := 16) hn1 rfl, lv_osw (a := 17) hn2 rfl, lv_osw (a := 21) hn3 rfl, lv_osw (a := 54) hn4 rfl, lv_osw (a := 87) hn5 rfl, lv_osw (a := 89) hn6 rfl, lv_osw (a := 116) hn7 rfl, lv_osw (a := 191) hn8 rfl]; first | done | rfl) (by decide) ?_
  refine lv_iload_n hx hb dX6_act_175 rfl (lv_at hl 2 rfl) ?_
  obtain ⟨r64, g63, h65, hf⟩ := hs_bd_some hf
  refine hs_calli (va_runS (As := [.int v2]) (rest := []) ⟨hx, hb, hml, hown, hts⟩ (ctX4_isOfArray l B D E v2 g _ h65) (va_cwS 1 hts (hs_gS (fun _ h => List.mem_cons_of_mem _ h) wq799 wq267 wq258 wq268) rfl rfl rfl (by decide +kernel) ⟨Nat.le_of_ble_eq_true rfl, Nat.le_of_ble_eq_true rfl⟩) (hs_pre hP hK) rfl rfl hl.1 rfl (lv_room (Nat.le_of_ble_eq_true rfl)) dX6_act_176 ⟨(Nat.le_of_ble_eq_true rfl), (Nat.le_of_ble_eq_true rfl)⟩) hS (fun H locs hP hS => ?_)
  refine lv_if_eq (tgt := 191) hx hb dX6_act_179 (by decide) (fun hc => ?_) (fun hc => ?_)
  · replace hf := hs_t hf hc
    refine lv_aload_n hx hb dX6_act_191 rfl (lv_at hl 0 rfl) ?_
    refine lv_aload_n hx hb dX6_act_192 rfl (lv_at hl 1 rfl) ?_
    refine lv_iload_n hx hb dX6_act_193 rfl (lv_at hl 2 rfl) ?_
    obtain ⟨h66, hf⟩ := hs_ck hf
    obtain ⟨r68, g67, h69, hf⟩ := hs_bd_some hf
    refine hs_calli (va_runV (As := [.ref (B + v1), .int v2]) (rest := []) ⟨hx, hb, hml, hown, hts⟩ (ctX6_actOnTwo l B D E v0 v1 v2 g63 _ h69) (cwV 2 hts (hs_gV (fun _ h => List.mem_cons_of_mem _ h) wq828 wq829 wq830 wq34 wq831) rfl rfl rfl (by decide +kernel) ⟨Nat.le_of_ble_eq_true rfl, Nat.le_of_ble_eq_true rfl⟩) (hs_preV (r := (RX6, TX6, 8)) hP hK h66 (by decide) rfl) rfl rfl hl.1 rfl (lv_room (Nat.le_of_ble_eq_true rfl)) dX6_act_194 ⟨(Nat.le_of_ble_eq_true rfl), (Nat.le_of_ble_eq_true rfl)⟩) hS (fun H locs hP hS => ?_)
    exact hs_iret hx hb hr hlocks rfl hK hP hS hf dX6_act_197
  · replace hf := hs_f hf hc
    refine lv_aload_n hx hb dX6_act_182 rfl (lv_at hl 0 rfl) ?_
    refine lv_aload_n hx hb dX6_act_183 rfl (lv_at hl 1 rfl) ?_
    refine lv_iload_n hx hb dX6_act_184 rfl (lv_at hl 2 rfl) ?_
    obtain ⟨h70, hf⟩ := hs_ck hf
    obtain ⟨r72, g71, h73, hf⟩ := hs_bd_some hf
    refine hs_calli (va_runV (As := [.ref (B + v1), .int v2]) (rest := []) ⟨hx, hb, hml, hown, hts⟩ (ctX6_actOnArray l B D E v0 v1 v2 g63 _ h73) (cwV 2 hts (hs_gV (fun _ h => List.mem_cons_of_mem _ h) wq800 wq801 wq802 wq34 wq803) rfl rfl rfl (by decide +kernel) ⟨Nat.le_of_ble_eq_true rfl, Nat.le_of_ble_eq_true rfl⟩) (hs_preV (r := (RX6, TX6, 8)) hP hK h70 (by decide) rfl) rfl rfl hl.1 rfl (lv_room (Nat.le_of_ble_eq_true rfl)) dX6_act_185 ⟨(Nat.le_of_ble_eq_true rfl), (Nat.le_of_ble_eq_true rfl)⟩) hS (fun H locs hP hS => ?_)
    refine lv_goto (tgt := 197) hx hb dX6_act_188 (by decide) ?_
    exact hs_iret hx hb hr hlocks rfl hK hP hS hf dX6_act_197

theorem dX7_handlerFor_0 : decode cX7_handlerFor 0 = .ok (.iconst 0, 1) := by decide +kernel
theorem dX7_handlerFor_1 : decode cX7_handlerFor 1 = .ok (.istore_n 3, 1) := by decide +kernel
theorem dX7_handlerFor_2 : decode cX7_handlerFor 2 = .ok (.iload_n 3, 1) := by decide +kernel
theorem dX7_handlerFor_3 : decode cX7_handlerFor 3 = .ok (.aload_n 0, 1) := by decide +kernel
theorem dX7_handlerFor_4 : decode cX7_handlerFor 4 = .ok (.getfield 31, 3) := by decide +kernel
theorem dX7_handlerFor_7 : decode cX7_handlerFor 7 = .ok (.if_icmp .ge 67, 3) := by decide +kernel
theorem dX7_handlerFor_10 : decode cX7_handlerFor 10 = .ok (.aload_n 0, 1) := by decide +kernel
theorem dX7_handlerFor_11 : decode cX7_handlerFor 11 = .ok (.iload_n 3, 1) := by decide +kernel
theorem dX7_handlerFor_12 : decode cX7_handlerFor 12 = .ok (.iconst 3, 1) := by decide +kernel
theorem dX7_handlerFor_13 : decode cX7_handlerFor 13 = .ok (.invokevirtual 86, 3) := by decide +kernel
theorem dX7_handlerFor_16 : decode cX7_handlerFor 16 = .ok (.istore 4, 2) := by decide +kernel
theorem dX7_handlerFor_18 : decode cX7_handlerFor 18 = .ok (.aload_n 0, 1) := by decide +kernel
theorem dX7_handlerFor_19 : decode cX7_handlerFor 19 = .ok (.iload_n 3, 1) := by decide +kernel
theorem dX7_handlerFor_20 : decode cX7_handlerFor 20 = .ok (.iconst 0, 1) := by decide +kernel
theorem dX7_handlerFor_21 : decode cX7_handlerFor 21 = .ok (.invokevirtual 86, 3) := by decide +kernel
theorem dX7_handlerFor_24 : decode cX7_handlerFor 24 = .ok (.iload_n 1, 1) := by decide +kernel
theorem dX7_handlerFor_25 : decode cX7_handlerFor 25 = .ok (.if_icmp .gt 17, 3) := by decide +kernel
theorem dX7_handlerFor_28 : decode cX7_handlerFor 28 = .ok (.iload_n 1, 1) := by decide +kernel
theorem dX7_handlerFor_29 : decode cX7_handlerFor 29 = .ok (.aload_n 0, 1) := by decide +kernel
theorem dX7_handlerFor_30 : decode cX7_handlerFor 30 = .ok (.iload_n 3, 1) := by decide +kernel
theorem dX7_handlerFor_31 : decode cX7_handlerFor 31 = .ok (.iconst 1, 1) := by decide +kernel
theorem dX7_handlerFor_32 : decode cX7_handlerFor 32 = .ok (.invokevirtual 86, 3) := by decide +kernel
theorem dX7_handlerFor_35 : decode cX7_handlerFor 35 = .ok (.if_icmp .ge 7, 3) := by decide +kernel
theorem dX7_handlerFor_38 : decode cX7_handlerFor 38 = .ok (.iconst 1, 1) := by decide +kernel
theorem dX7_handlerFor_39 : decode cX7_handlerFor 39 = .ok (.goto 4, 3) := by decide +kernel
theorem dX7_handlerFor_42 : decode cX7_handlerFor 42 = .ok (.iconst 0, 1) := by decide +kernel
theorem dX7_handlerFor_43 : decode cX7_handlerFor 43 = .ok (.istore 5, 2) := by decide +kernel
theorem dX7_handlerFor_45 : decode cX7_handlerFor 45 = .ok (.iload 5, 2) := by decide +kernel
theorem dX7_handlerFor_47 : decode cX7_handlerFor 47 = .ok (.ifCond .eq 21, 3) := by decide +kernel
theorem dX7_handlerFor_50 : decode cX7_handlerFor 50 = .ok (.iload 4, 2) := by decide +kernel
theorem dX7_handlerFor_52 : decode cX7_handlerFor 52 = .ok (.iload_n 2, 1) := by decide +kernel
theorem dX7_handlerFor_53 : decode cX7_handlerFor 53 = .ok (.if_icmp .eq 8, 3) := by decide +kernel
theorem dX7_handlerFor_56 : decode cX7_handlerFor 56 = .ok (.iload 4, 2) := by decide +kernel
theorem dX7_handlerFor_58 : decode cX7_handlerFor 58 = .ok (.ifCond .ne 10, 3) := by decide +kernel
theorem dX7_handlerFor_61 : decode cX7_handlerFor 61 = .ok (.aload_n 0, 1) := by decide +kernel
theorem dX7_handlerFor_62 : decode cX7_handlerFor 62 = .ok (.iload_n 3, 1) := by decide +kernel
theorem dX7_handlerFor_63 : decode cX7_handlerFor 63 = .ok (.iconst 2, 1) := by decide +kernel
theorem dX7_handlerFor_64 : decode cX7_handlerFor 64 = .ok (.invokevirtual 86, 3) := by decide +kernel
theorem dX7_handlerFor_67 : decode cX7_handlerFor 67 = .ok (.ireturn, 1) := by decide +kernel
theorem dX7_handlerFor_68 : decode cX7_handlerFor 68 = .ok (.iinc 3 1, 3) := by decide +kernel
theorem dX7_handlerFor_71 : decode cX7_handlerFor 71 = .ok (.goto (-69), 3) := by decide +kernel
theorem dX7_handlerFor_74 : decode cX7_handlerFor 74 = .ok (.iconst (-1), 1) := by decide +kernel
theorem dX7_handlerFor_75 : decode cX7_handlerFor 75 = .ok (.ireturn, 1) := by decide +kernel
abbrev wcX7_handlerFor : List Cond := .code yX7_handlerFor cX7_handlerFor 6 (some .int) :: wsL_law
def jX7_handlerFor_68 (rec : Int32 → hs_S → Option (Nat × Int32 × hs_S)) (v0 : Nat) (v1 : Int32) (v2 : Int32) (v3 : Int32) (g : hs_S) : Option (Nat × Int32 × hs_S) :=
  rec (v3 + (1 : Int32)) g
def jX7_handlerFor_43 (rec : Int32 → hs_S → Option (Nat × Int32 × hs_S)) (v0 : Nat) (v1 : Int32) (v2 : Int32) (v3 : Int32) (v4 : Int32) (s0 : Int32) (g : hs_S) : Option (Nat × Int32 × hs_S) :=
  if s0 = 0 then (
    jX7_handlerFor_68 rec v0 v1 v2 v3 g
  ) else (
    if v4 = v2 then (
      some (1, v3, g)
    ) else (
      if v4 = 0 then (
        some (1, v3, g)
      ) else (
        jX7_handlerFor_68 rec v0 v1 v2 v3 g
      )
    )
  )
def jX7_handlerFor_42 (rec : Int32 → hs_S → Option (Nat × Int32 × hs_S)) (v0 : Nat) (v1 : Int32) (v2 : Int32) (v3 : Int32) (v4 : Int32) (g : hs_S) : Option (Nat × Int32 × hs_S) :=
  jX7_handlerFor_43 rec v0 v1 v2 v3 v4 (0 : Int32) g
def lX7_handlerFor_2 : Nat → Nat → Int32 → Int32 → Int32 → hs_S → Option (Nat × Int32 × hs_S)
  | 0, _, _, _, _, _ => none
  | n + 1, v0, v1, v2, v3, g =>
    if hs_kd g v0 = 6 then
    if (hs_I g v0 6) ≤ v3 then (
      some (0, v3, g)
    ) else (
      hs_bd (fX7_handlerNumber v0 v3 (3 : Int32) g) fun r3 g2 =>
      if hs_kd g2 v0 = 6 then
      hs_bd (fX7_handlerNumber v0 v3 (0 : Int32) g2) fun r7 g6 =>
      if v1 < r7 then (
        jX7_handlerFor_42 (fun y0 g => lX7_handlerFor_2 n v0 v1 v2 y0 g) v0 v1 v2 v3 r3 g6
      ) else (
        if hs_kd g6 v0 = 6 then
        hs_bd (fX7_handlerNumber v0 v3 (1 : Int32) g6) fun r11 g10 =>
        if r11 ≤ v1 then (
          jX7_handlerFor_42 (fun y0 g => lX7_handlerFor_2 n v0 v1 v2 y0 g) v0 v1 v2 v3 r3 g10
        ) else (
          jX7_handlerFor_43 (fun y0 g => lX7_handlerFor_2 n v0 v1 v2 y0 g) v0 v1 v2 v3 r3 (1 : Int32) g10
        )
        else none
      )
      else none
    )
    else none
theorem lX7_handlerFor_2_s (n : Nat) (v0 : Nat) (v1 : Int32) (v2 : Int32) (v3 : Int32) (g : hs_S) : lX7_handlerFor_2 (n + 1) v0 v1 v2 v3 g =
    if hs_kd g v0 = 6 then
    if (hs_I g v0 6) ≤ v3 then (
      some (0, v3, g)
    ) else (
      hs_bd (fX7_handlerNumber v0 v3 (3 : Int32) g) fun r3 g2 =>
      if hs_kd g2 v0 = 6 then
      hs_bd (fX7_handlerNumber v0 v3 (0 : Int32) g2) fun r7 g6 =>
      if v1 < r7 then (
        jX7_handlerFor_42 (fun y0 g => lX7_handlerFor_2 n v0 v1 v2 y0 g) v0 v1 v2 v3 r3 g6
      ) else (
        if hs_kd g6 v0 = 6 then
        hs_bd (fX7_handlerNumber v0 v3 (1 : Int32) g6) fun r11 g10 =>
        if r11 ≤ v1 then (
          jX7_handlerFor_42 (fun y0 g => lX7_handlerFor_2 n v0 v1 v2 y0 g) v0 v1 v2 v3 r3 g10
        ) else (
          jX7_handlerFor_43 (fun y0 g => lX7_handlerFor_2 n v0 v1 v2 y0 g) v0 v1 v2 v3 r3 (1 : Int32) g10
        )
        else none
      )
      else none
    )
    else none := rfl
def jX7_handlerFor_61 (v0 : Nat) (v3 : Int32) (g : hs_S) : Option (Int32 × hs_S) :=
  if hs_kd g v0 = 6 then
  hs_bd (fX7_handlerNumber v0 v3 (2 : Int32) g) fun r19 g18 =>
  some (r19, g18)
  else none
def fX7_handlerFor (v0 : Nat) (v1 : Int32) (v2 : Int32) (g : hs_S) : Option (Int32 × hs_S) :=
  hs_b3 (lX7_handlerFor_2 hs_N v0 v1 v2 (0 : Int32) g) fun k14 x13 g15 =>
  if k14 = 0 then (
    some ((-1 : Int32), g15)
  ) else (
    jX7_handlerFor_61 v0 x13 g15
  )
abbrev rmX7_handlerFor : Room := { frames := 2, cells := 0, slots := 0, locals := 43 }
set_option maxHeartbeats 4000000 in
set_option maxRecDepth 100000 in
theorem wX7_handlerFor_j68 {p : Program} {l : Launch} {e : Env} {s : State} {m : MethodId} {args : Array Value} {below : List Frame} {meth : Method} {c : Code} {B : Nat} {D : va_G} {E : Nat → ClassId} (hX : hs_cx cX7_handlerFor (some .int) 6 RX7 wcX7_handlerFor p s m args meth c D E) {Q : State → Prop} {o : Nat × Int32 × hs_S} {rec : Int32 → hs_S → Option (Nat × Int32 × hs_S)} {v0 : Nat} {v1 : Int32} {v2 : Int32} {v3 : Int32}  (hrec : ∀ (y0 : Int32) (g : hs_S) (H : Heap) (locs : List Loc) (ls : Array Slot), rec y0 g = some o → hs_P B D E g H → hs_Sx B s.heap H locs → lv_has ls 6 [(0, .ref (B + v0)), (1, .int v1), (2, .int v2), (3, .int y0)] → W p l e rmX7_handlerFor s m args below meth c H locs 0 0 Q (F0 m 2 ls [])) (hex0 : o.1 = 0 → ∀ (H : Heap) (locs : List Loc) (ls : Array Slot), hs_P B D E (o.2.2) H → hs_Sx B s.heap H locs → lv_has ls 6 [] → W p l e rmX7_handlerFor s m args below meth c H locs 0 0 Q (F0 m 74 ls [])) (hex1 : o.1 = 1 → ∀ (H : Heap) (locs : List Loc) (ls : Array Slot), hs_P B D E (o.2.2) H → hs_Sx B s.heap H locs → lv_has ls 6 [(0, .ref (B + v0)), (3, .int (o.2.1))] → W p l e rmX7_handlerFor s m args below meth c H locs 0 0 Q (F0 m 61 ls [])) {g : hs_S} {H : Heap} {locs : List Loc} {ls : Array Slot} (hf : jX7_handlerFor_68 rec v0 v1 v2 v3 g = some o) (hP : hs_P B D E g H) (hS : hs_Sx B s.heap H locs) (hl : lv_has ls 6 [(0, .ref (B + v0)), (1, .int v1), (2, .int v2), (3, .int v3)]) : W p l e rmX7_handlerFor s m args below meth c H locs 0 0 Q (F0 m 68 ls []) := by
  obtain ⟨hx, hb, hr, hml, hown, hts, hlocks, hK⟩ := id hX
  unfold jX7_handlerFor_68 at hf
  refine lv_iinc (v := (v3 + (1 : Int32))) (lv' := [(3, .int (v3 + (1 : Int32))), (0, .ref (B + v0)), (1, .int v1), (2, .int v2)]) hx hb dX7_handlerFor_68 hl (k := 3) rfl (by rfl) (by decide) rfl (fun ls hl => ?_)
  refine lv_goto (tgt := 2) hx hb dX7_handlerFor_71 (by decide) ?_
  exact hrec _ _ _ _ _ hf hP hS (lv_sub hl [1, 2, 3, 0] rfl)

set_option maxHeartbeats 4000000 in
set_option maxRecDepth 100000 in
theorem wX7_handlerFor_j43 {p : Program} {l : Launch} {e : Env} {s : State} {m : MethodId} {args : Array Value} {below : List Frame} {meth : Method} {c : Code} {B : Nat} {D : va_G} {E : Nat → ClassId} (hX : hs_cx cX7_handlerFor (some .int) 6 RX7 wcX7_handlerFor p s m args meth c D E) {Q : State → Prop} {o : Nat × Int32 × hs_S} {rec : Int32 → hs_S → Option (Nat × Int32 × hs_S)} {v0 : Nat} {v1 : Int32} {v2 : Int32} {v3 : Int32} {v4 : Int32} {s0 : Int32}  (hrec : ∀ (y0 : Int32) (g : hs_S) (H : Heap) (locs : List Loc) (ls : Array Slot), rec y0 g = some o → hs_P B D E g H → hs_Sx B s.heap H locs → lv_has ls 6 [(0, .ref (B + v0)), (1, .int v1), (2, .int v2), (3, .int y0)] → W p l e rmX7_handlerFor s m args below meth c H locs 0 0 Q (F0 m 2 ls [])) (hex0 : o.1 = 0 → ∀ (H : Heap) (locs : List Loc) (ls : Array Slot), hs_P B D E (o.2.2) H → hs_Sx B s.heap H locs → lv_has ls 6 [] → W p l e rmX7_handlerFor s m args below meth c H locs 0 0 Q (F0 m 74 ls [])) (hex1 : o.1 = 1 → ∀ (H : Heap) (locs : List Loc) (ls : Array Slot), hs_P B D E (o.2.2) H → hs_Sx B s.heap H locs → lv_has ls 6 [(0, .ref (B + v0)), (3, .int (o.2.1))] → W p l e rmX7_handlerFor s m args below meth c H locs 0 0 Q (F0 m 61 ls [])) {g : hs_S} {H : Heap} {locs : List Loc} {ls : Array Slot} (hf : jX7_handlerFor_43 rec v0 v1 v2 v3 v4 s0 g = some o) (hP : hs_P B D E g H) (hS : hs_Sx B s.heap H locs) (hl : lv_has ls 6 [(0, .ref (B + v0)), (1, .int v1), (2, .int v2), (3, .int v3), (4, .int v4)]) : W p l e rmX7_handlerFor s m args below meth c H locs 0 0 Q (F0 m 43 ls [.int s0]) := by
  obtain ⟨hx, hb, hr, hml, hown, hts, hlocks, hK⟩ := id hX
  unfold jX7_handlerFor_43 at hf
  refine lv_istore (lv' := [(5, .int s0), (0, .ref (B + v0)), (1, .int v1), (2, .int v2), (3, .int v3), (4, .int v4)]) hx hb dX7_handlerFor_43 hl (by decide) rfl (fun ls hl => ?_)
  refine lv_iload hx hb dX7_handlerFor_45 (lv_at hl 0 rfl) ?_
  refine lv_if_eq (tgt := 68) hx hb dX7_handlerFor_47 (by decide) (fun hc => ?_) (fun hc => ?_)
  · replace hf := hs_t hf hc
    exact wX7_handlerFor_j68 hX hrec hex0 hex1 hf hP hS (lv_sub hl [1, 2, 3, 4] rfl)
  · replace hf := hs_f hf hc
    refine lv_iload hx hb dX7_handlerFor_50 (lv_at hl 5 rfl) ?_
    refine lv_iload_n hx hb dX7_handlerFor_52 rfl (lv_at hl 3 rfl) ?_
    refine lv_icmp_eq (tgt := 61) hx hb dX7_handlerFor_53 (by decide) (fun hc => ?_) (fun hc => ?_)
    · replace hf := hs_t hf hc
      obtain rfl := Option.some.inj hf
      exact hex1 rfl _ _ _ hP hS (lv_sub hl [1, 4] rfl)
    · replace hf := hs_f hf hc
      refine lv_iload hx hb dX7_handlerFor_56 (lv_at hl 5 rfl) ?_
      refine lv_if_ne (tgt := 68) hx hb dX7_handlerFor_58 (by decide) (fun hc => ?_) (fun hc => ?_)
      · replace hf := hs_f hf hc
        exact wX7_handlerFor_j68 hX hrec hex0 hex1 hf hP hS (lv_sub hl [1, 2, 3, 4] rfl)
      · replace hf := hs_t hf hc
        obtain rfl := Option.some.inj hf
        exact hex1 rfl _ _ _ hP hS (lv_sub hl [1, 4] rfl)

set_option maxHeartbeats 4000000 in
set_option maxRecDepth 100000 in
theorem wX7_handlerFor_j42 {p : Program} {l : Launch} {e : Env} {s : State} {m : MethodId} {args : Array Value} {below : List Frame} {meth : Method} {c : Code} {B : Nat} {D : va_G} {E : Nat → ClassId} (hX : hs_cx cX7_handlerFor (some .int) 6 RX7 wcX7_handlerFor p s m args meth c D E) {Q : State → Prop} {o : Nat × Int32 × hs_S} {rec : Int32 → hs_S → Option (Nat × Int32 × hs_S)} {v0 : Nat} {v1 : Int32} {v2 : Int32} {v3 : Int32} {v4 : Int32}  (hrec : ∀ (y0 : Int32) (g : hs_S) (H : Heap) (locs : List Loc) (ls : Array Slot), rec y0 g = some o → hs_P B D E g H → hs_Sx B s.heap H locs → lv_has ls 6 [(0, .ref (B + v0)), (1, .int v1), (2, .int v2), (3, .int y0)] → W p l e rmX7_handlerFor s m args below meth c H locs 0 0 Q (F0 m 2 ls [])) (hex0 : o.1 = 0 → ∀ (H : Heap) (locs : List Loc) (ls : Array Slot), hs_P B D E (o.2.2) H → hs_Sx B s.heap H locs → lv_has ls 6 [] → W p l e rmX7_handlerFor s m args below meth c H locs 0 0 Q (F0 m 74 ls [])) (hex1 : o.1 = 1 → ∀ (H : Heap) (locs : List Loc) (ls : Array Slot), hs_P B D E (o.2.2) H → hs_Sx B s.heap H locs → lv_has ls 6 [(0, .ref (B + v0)), (3, .int (o.2.1))] → W p l e rmX7_handlerFor s m args below meth c H locs 0 0 Q (F0 m 61 ls [])) {g : hs_S} {H : Heap} {locs : List Loc} {ls : Array Slot} (hf : jX7_handlerFor_42 rec v0 v1 v2 v3 v4 g = some o) (hP : hs_P B D E g H) (hS : hs_Sx B s.heap H locs) (hl : lv_has ls 6 [(0, .ref (B + v0)), (1, .int v1), (2, .int v2), (3, .int v3), (4, .int v4)]) : W p l e rmX7_handlerFor s m args below meth c H locs 0 0 Q (F0 m 42 ls []) := by
  obtain ⟨hx, hb, hr, hml, hown, hts, hlocks, hK⟩ := id hX
  unfold jX7_handlerFor_42 at hf
  refine lv_iconst (v := 0) hx hb dX7_handlerFor_42 (by decide) ?_
  exact wX7_handlerFor_j43 hX hrec hex0 hex1 hf hP hS (lv_sub hl [0, 1, 2, 3, 4] rfl)

set_option maxHeartbeats 4000000 in
set_option maxRecDepth 100000 in
theorem wX7_handlerFor_2 {p : Program} {l : Launch} {e : Env} {s : State} {m : MethodId} {args : Array Value} {below : List Frame} {meth : Method} {c : Code} {B : Nat} {D : va_G} {E : Nat → ClassId} (hX : hs_cx cX7_handlerFor (some .int) 6 RX7 wcX7_handlerFor p s m args meth c D E) {Q : State → Prop} {o : Nat × Int32 × hs_S} {v0 : Nat} {v1 : Int32} {v2 : Int32} (hex0 : o.1 = 0 → ∀ (H : Heap) (locs : List Loc) (ls : Array Slot), hs_P B D E (o.2.2) H → hs_Sx B s.heap H locs → lv_has ls 6 [] → W p l e rmX7_handlerFor s m args below meth c H locs 0 0 Q (F0 m 74 ls [])) (hex1 : o.1 = 1 → ∀ (H : Heap) (locs : List Loc) (ls : Array Slot), hs_P B D E (o.2.2) H → hs_Sx B s.heap H locs → lv_has ls 6 [(0, .ref (B + v0)), (3, .int (o.2.1))] → W p l e rmX7_handlerFor s m args below meth c H locs 0 0 Q (F0 m 61 ls [])) : ∀ (n : Nat) (v3 : Int32) (g : hs_S), lX7_handlerFor_2 n v0 v1 v2 v3 g = some o → ∀ (H : Heap) (locs : List Loc) (ls : Array Slot), hs_P B D E g H → hs_Sx B s.heap H locs → lv_has ls 6 [(0, .ref (B + v0)), (1, .int v1), (2, .int v2), (3, .int v3)] → W p l e rmX7_handlerFor s m args below meth c H locs 0 0 Q (F0 m 2 ls []) := by
  obtain ⟨hx, hb, hr, hml, hown, hts, hlocks, hK⟩ := id hX
  intro n
  induction n with
  | zero =>
    intro v3 g hf
    cases hf
  | succ n ih =>
    intro v3 g hf H locs ls hP hS hl
    replace hf := (lX7_handlerFor_2_s n v0 v1 v2 v3 g).symm.trans hf
    refine lv_iload_n hx hb dX7_handlerFor_2 rfl (lv_at hl 3 rfl) ?_
    refine lv_aload_n hx hb dX7_handlerFor_3 rfl (lv_at hl 0 rfl) ?_
    obtain ⟨h1, hf⟩ := hs_ck hf
    refine hs_geti (C := RX7) (T := TX7) (N := 11) hx hb hts (fun w h => List.mem_cons_of_mem _ (inlX7 w h)) hown hK.1 hP h1 (by decide) rfl 6 (by decide) (hts _ (List.mem_cons_of_mem _ wq208)) (fun _ h => h) rfl dX7_handlerFor_4 ?_
    refine lv_icmp_ge (tgt := 74) hx hb dX7_handlerFor_7 (by decide) (fun hc => ?_) (fun hc => ?_)
    · replace hf := hs_t hf hc
      obtain rfl := Option.some.inj hf
      exact hex0 rfl _ _ _ hP hS (lv_sub hl [] rfl)
    · replace hf := hs_f hf hc
      refine lv_aload_n hx hb dX7_handlerFor_10 rfl (lv_at hl 0 rfl) ?_
      refine lv_iload_n hx hb dX7_handlerFor_11 rfl (lv_at hl 3 rfl) ?_
      refine lv_iconst (v := 3) hx hb dX7_handlerFor_12 (by decide) ?_
      obtain ⟨r3, g2, h4, hf⟩ := hs_bd_some hf
      refine hs_calli (va_runV (As := [.int v3, .int (3 : Int32)]) (rest := []) ⟨hx, hb, hml, hown, hts⟩ (ctX7_handlerNumber l B D E v0 v3 (3 : Int32) g _ h4) (cwV 2 hts (hs_gV (fun _ h => List.mem_cons_of_mem _ h) wq844 wq322 wq323 wq43 wq324) rfl rfl rfl (by decide +kernel) ⟨Nat.le_of_ble_eq_true rfl, Nat.le_of_ble_eq_true rfl⟩) (hs_preV (r := (RX7, TX7, 11)) hP hK h1 (by decide) rfl) rfl rfl hl.1 rfl (lv_room (Nat.le_of_ble_eq_true rfl)) dX7_handlerFor_13 ⟨(Nat.le_of_ble_eq_true rfl), (Nat.le_of_ble_eq_true rfl)⟩) hS (fun H locs hP hS => ?_)
      refine lv_istore (lv' := [(4, .int r3), (0, .ref (B + v0)), (1, .int v1), (2, .int v2), (3, .int v3)]) hx hb dX7_handlerFor_16 hl (by decide) rfl (fun ls hl => ?_)
      refine lv_aload_n hx hb dX7_handlerFor_18 rfl (lv_at hl 1 rfl) ?_
      refine lv_iload_n hx hb dX7_handlerFor_19 rfl (lv_at hl 4 rfl) ?_
      refine lv_iconst (v := 0) hx hb dX7_handlerFor_20 (by decide) ?_
      obtain ⟨h5, hf⟩ := hs_ck hf
      obtain ⟨r7, g6, h8, hf⟩ := hs_bd_some hf
      refine hs_calli (va_runV (As := [.int v3, .int (0 : Int32)]) (rest := []) ⟨hx, hb, hml, hown, hts⟩ (ctX7_handlerNumber l B D E v0 v3 (0 : Int32) g2 _ h8) (cwV 2 hts (hs_gV (fun _ h => List.mem_cons_of_mem _ h) wq844 wq322 wq323 wq43 wq324) rfl rfl rfl (by decide +kernel) ⟨Nat.le_of_ble_eq_true rfl, Nat.le_of_ble_eq_true rfl⟩) (hs_preV (r := (RX7, TX7, 11)) hP hK h5 (by decide) rfl) rfl rfl hl.1 rfl (lv_room (Nat.le_of_ble_eq_true rfl)) dX7_handlerFor_21 ⟨(Nat.le_of_ble_eq_true rfl), (Nat.le_of_ble_eq_true rfl)⟩) hS (fun H locs hP hS => ?_)
      refine lv_iload_n hx hb dX7_handlerFor_24 rfl (lv_at hl 2 rfl) ?_
      refine lv_icmp_gt (tgt := 42) hx hb dX7_handlerFor_25 (by decide) (fun hc => ?_) (fun hc => ?_)
      · replace hf := hs_t hf hc
        exact wX7_handlerFor_j42 hX (fun z0 g H locs ls hf hP hS hl => ih z0 g hf H locs ls hP hS hl) hex0 hex1 hf hP hS (lv_sub hl [1, 2, 3, 4, 0] rfl)
      · replace hf := hs_f hf hc
        refine lv_iload_n hx hb dX7_handlerFor_28 rfl (lv_at hl 2 rfl) ?_
        refine lv_aload_n hx hb dX7_handlerFor_29 rfl (lv_at hl 1 rfl) ?_
        refine lv_iload_n hx hb dX7_handlerFor_30 rfl (lv_at hl 4 rfl) ?_
        refine lv_iconst (v := 1) hx hb dX7_handlerFor_31 (by decide) ?_
        obtain ⟨h9, hf⟩ := hs_ck hf
        obtain ⟨r11, g10, h12, hf⟩ := hs_bd_some hf
        refine hs_calli (va_runV (As := [.int v3, .int (1 : Int32)]) (rest := [.int v1]) ⟨hx, hb, hml, hown, hts⟩ (ctX7_handlerNumber l B D E v0 v3 (1 : Int32) g6 _ h12) (cwV 2 hts (hs_gV (fun _ h => List.mem_cons_of_mem _ h) wq844 wq322 wq323 wq43 wq324) rfl rfl rfl (by decide +kernel) ⟨Nat.le_of_ble_eq_true rfl, Nat.le_of_ble_eq_true rfl⟩) (hs_preV (r := (RX7, TX7, 11)) hP hK h9 (by decide) rfl) rfl rfl hl.1 rfl (lv_room (Nat.le_of_ble_eq_true rfl)) dX7_handlerFor_32 ⟨(Nat.le_of_ble_eq_true rfl), (Nat.le_of_ble_eq_true rfl)⟩) hS (fun H locs hP hS => ?_)
        refine lv_icmp_ge (tgt := 42) hx hb dX7_handlerFor_35 (by decide) (fun hc => ?_) (fun hc => ?_)
        · replace hf := hs_t hf hc
          exact wX7_handlerFor_j42 hX (fun z0 g H locs ls hf hP hS hl => ih z0 g hf H locs ls hP hS hl) hex0 hex1 hf hP hS (lv_sub hl [1, 2, 3, 4, 0] rfl)
        · replace hf := hs_f hf hc
          refine lv_iconst (v := 1) hx hb dX7_handlerFor_38 (by decide) ?_
          refine lv_goto (tgt := 43) hx hb dX7_handlerFor_39 (by decide) ?_
          exact wX7_handlerFor_j43 hX (fun z0 g H locs ls hf hP hS hl => ih z0 g hf H locs ls hP hS hl) hex0 hex1 hf hP hS (lv_sub hl [1, 2, 3, 4, 0] rfl)

set_option maxHeartbeats 4000000 in
set_option maxRecDepth 100000 in
theorem wX7_handlerFor_j61 {p : Program} {l : Launch} {e : Env} {s : State} {m : MethodId} {args : Array Value} {below : List Frame} {meth : Method} {c : Code} {B : Nat} {D : va_G} {E : Nat → ClassId} (hX : hs_cx cX7_handlerFor (some .int) 6 RX7 wcX7_handlerFor p s m args meth c D E) {o : Int32 × hs_S}  {v0 : Nat} {v3 : Int32}   {g : hs_S} {H : Heap} {locs : List Loc} {ls : Array Slot} (hf : jX7_handlerFor_61 v0 v3 g = some o) (hP : hs_P B D E g H) (hS : hs_Sx B s.heap H locs) (hl : lv_has ls 6 [(0, .ref (B + v0)), (3, .int v3)]) : W p l e rmX7_handlerFor s m args below meth c H locs 0 0 (MQ below (hs_Qi B D E o) args s 0 0 (hs_F B)) (F0 m 61 ls []) := by
  obtain ⟨hx, hb, hr, hml, hown, hts, hlocks, hK⟩ := id hX
  unfold jX7_handlerFor_61 at hf
  refine lv_aload_n hx hb dX7_handlerFor_61 rfl (lv_at hl 0 rfl) ?_
  refine lv_iload_n hx hb dX7_handlerFor_62 rfl (lv_at hl 1 rfl) ?_
  refine lv_iconst (v := 2) hx hb dX7_handlerFor_63 (by decide) ?_
  obtain ⟨h17, hf⟩ := hs_ck hf
  obtain ⟨r19, g18, h20, hf⟩ := hs_bd_some hf
  refine hs_calli (va_runV (As := [.int v3, .int (2 : Int32)]) (rest := []) ⟨hx, hb, hml, hown, hts⟩ (ctX7_handlerNumber l B D E v0 v3 (2 : Int32) g _ h20) (cwV 2 hts (hs_gV (fun _ h => List.mem_cons_of_mem _ h) wq844 wq322 wq323 wq43 wq324) rfl rfl rfl (by decide +kernel) ⟨Nat.le_of_ble_eq_true rfl, Nat.le_of_ble_eq_true rfl⟩) (hs_preV (r := (RX7, TX7, 11)) hP hK h17 (by decide) rfl) rfl rfl hl.1 rfl (lv_room (Nat.le_of_ble_eq_true rfl)) dX7_handlerFor_64 ⟨(Nat.le_of_ble_eq_true rfl), (Nat.le_of_ble_eq_true rfl)⟩) hS (fun H locs hP hS => ?_)
  exact hs_iret hx hb hr hlocks rfl hK hP hS hf dX7_handlerFor_67

set_option maxHeartbeats 4000000 in
set_option maxRecDepth 100000 in
theorem ctX7_handlerFor (l : Launch) (B : Nat) (D : va_G) (E : Nat → ClassId) (v0 : Nat) (v1 : Int32) (v2 : Int32) (g : hs_S) (o : Int32 × hs_S) (hf : fX7_handlerFor v0 v1 v2 g = some o) : Met l yX7_handlerFor wcX7_handlerFor rmX7_handlerFor (hs_Pc B D E g [.ref (B + v0), .int v1, .int v2]) (hs_Qi B D E o) (0) (0) (hs_F B) := by
  refine Met.ofW (cc := cX7_handlerFor) (maxL := 6) (ret := (some .int)) (by decide) rfl ?_
  intro p e s m args below meth c s₁ Bd hml hv
  obtain ⟨rfl, hP, hK⟩ := hv
  have hx := Bd.exec
  have hb := Bd.bytes
  have hr := Bd.returns
  have hts := atoms_spec (ws := wcX7_handlerFor) Bd.pre
  have hown : s.vm.findClass RX7 = some m.cls := findClass_of_methodNamed Bd.named
  have hlocks := Bd.notSynchronized
  have hS : hs_Sx B s.heap s.heap [] := va_S.rf
  have hX : hs_cx cX7_handlerFor (some .int) 6 RX7 wcX7_handlerFor p s m (List.toArray [.ref (B + v0), .int v1, .int v2]) meth c D E := ⟨hx, hb, hr, hml, hown, hts, hlocks, hK⟩
  have hl := lv_entry ([.ref (B + v0), .int v1, .int v2]) (n := 6) (Nat.le_of_ble_eq_true rfl)
  rw [lg_entry_eq]
  generalize (lg_sl ([.ref (B + v0), .int v1, .int v2]) ++ List.replicate (6 - (lg_sl ([.ref (B + v0), .int v1, .int v2])).length) Slot.unset).toArray = ls at hl ⊢
  have hl : lv_has ls 6 [(0, .ref (B + v0)), (1, .int v1), (2, .int v2)] := hl
  have hP : hs_P B D E g s.heap := hP
  unfold fX7_handlerFor at hf
  refine lv_iconst (v := 0) hx hb dX7_handlerFor_0 (by decide) ?_
  refine lv_istore_n (lv' := [(3, .int (0 : Int32)), (0, .ref (B + v0)), (1, .int v1), (2, .int v2)]) hx hb dX7_handlerFor_1 rfl hl (by decide) rfl (fun ls hl => ?_)
  obtain ⟨k14, x13, g15, h16, hf⟩ := hs_b3_some hf
  refine wX7_handlerFor_2 hX (fun hlab H locs ls hP hS hl => ?_) (fun hlab H locs ls hP hS hl => ?_) hs_N _ _ h16 _ _ _ hP hS (lv_sub hl [1, 2, 3, 0] rfl)
  · replace hlab : k14 = 0 := hlab
    replace hf := hs_t hf hlab
    refine lv_iconst (v := -1) hx hb dX7_handlerFor_74 (by decide) ?_
    exact hs_iret hx hb hr hlocks rfl hK hP hS hf dX7_handlerFor_75
  · replace hlab : k14 = 1 := hlab
    replace hf := hs_f hf (by rw [hlab]; decide)
    exact wX7_handlerFor_j61 hX hf hP hS (lv_sub hl [0, 1] rfl)

theorem dX3_goOnWith_0 : decode cX3_goOnWith 0 = .ok (.aload_n 0, 1) := by decide +kernel
theorem dX3_goOnWith_1 : decode cX3_goOnWith 1 = .ok (.iconst 0, 1) := by decide +kernel
theorem dX3_goOnWith_2 : decode cX3_goOnWith 2 = .ok (.putfield 26, 3) := by decide +kernel
theorem dX3_goOnWith_5 : decode cX3_goOnWith 5 = .ok (.aload_n 0, 1) := by decide +kernel
theorem dX3_goOnWith_6 : decode cX3_goOnWith 6 = .ok (.iload_n 1, 1) := by decide +kernel
theorem dX3_goOnWith_7 : decode cX3_goOnWith 7 = .ok (.invokevirtual 51, 3) := by decide +kernel
theorem dX3_goOnWith_10 : decode cX3_goOnWith 10 = .ok (.aload_n 0, 1) := by decide +kernel
theorem dX3_goOnWith_11 : decode cX3_goOnWith 11 = .ok (.iload_n 2, 1) := by decide +kernel
theorem dX3_goOnWith_12 : decode cX3_goOnWith 12 = .ok (.putfield 22, 3) := by decide +kernel
theorem dX3_goOnWith_15 : decode cX3_goOnWith 15 = .ok (.return_, 1) := by decide +kernel
abbrev wcX3_goOnWith : List Cond := .code yX3_goOnWith cX3_goOnWith 3 none :: wsL_law
def fX3_goOnWith (v0 : Nat) (v1 : Int32) (v2 : Int32) (g : hs_S) : Option (hs_S) :=
  if hs_kd g v0 = 3 then
  hs_bv (fX3_push v0 v1 (hs_wI g v0 2 (0 : Int32))) fun g2 =>
  if hs_kd g2 v0 = 3 then
  some (hs_wI g2 v0 4 v2)
  else none else none
abbrev rmX3_goOnWith : Room := { frames := 2, cells := 0, slots := 0, locals := 43 }
set_option maxHeartbeats 4000000 in
set_option maxRecDepth 100000 in
theorem ctX3_goOnWith (l : Launch) (B : Nat) (D : va_G) (E : Nat → ClassId) (v0 : Nat) (v1 : Int32) (v2 : Int32) (g : hs_S) (o : hs_S) (hf : fX3_goOnWith v0 v1 v2 g = some o) : Met l yX3_goOnWith wcX3_goOnWith rmX3_goOnWith (hs_Pc B D E g [.ref (B + v0), .int v1, .int v2]) (hs_Qv B D E o) (0) (0) (hs_F B) := by
  refine Met.ofW (cc := cX3_goOnWith) (maxL := 3) (ret := none) (by decide) rfl ?_
  intro p e s m args below meth c s₁ Bd hml hv
  obtain ⟨rfl, hP, hK⟩ := hv
  have hx := Bd.exec
  have hb := Bd.bytes
  have hr := Bd.returns
  have hts := atoms_spec (ws := wcX3_goOnWith) Bd.pre
  have hown : s.vm.findClass RX3 = some m.cls := findClass_of_methodNamed Bd.named
  have hlocks := Bd.notSynchronized
  have hS : hs_Sx B s.heap s.heap [] := va_S.rf
  have hX : hs_cx cX3_goOnWith none 3 RX3 wcX3_goOnWith p s m (List.toArray [.ref (B + v0), .int v1, .int v2]) meth c D E := ⟨hx, hb, hr, hml, hown, hts, hlocks, hK⟩
  have hl := lv_entry ([.ref (B + v0), .int v1, .int v2]) (n := 3) (Nat.le_of_ble_eq_true rfl)
  rw [lg_entry_eq]
  generalize (lg_sl ([.ref (B + v0), .int v1, .int v2]) ++ List.replicate (3 - (lg_sl ([.ref (B + v0), .int v1, .int v2])).length) Slot.unset).toArray = ls at hl ⊢
  have hl : lv_has ls 3 [(0, .ref (B + v0)), (1, .int v1), (2, .int v2)] := hl
  have hP : hs_P B D E g s.heap := hP
  unfold fX3_goOnWith at hf
  refine lv_aload_n hx hb dX3_goOnWith_0 rfl (lv_at hl 0 rfl) ?_
  refine lv_iconst (v := 0) hx hb dX3_goOnWith_1 (by decide) ?_
  obtain ⟨h1, hf⟩ := hs_ck hf
  refine hs_puti (C := RX3) (T := TX3) (N := 5) hx hb hts (fun w h => List.mem_cons_of_mem _ (inlX3 w h)) tyX3 tyX3_ok nmX3 hown hK.1 hP hS h1 (by decide) rfl 2 (by decide) (hts _ (List.mem_cons_of_mem _ wq724)) (fun _ h => h) (Or.inl rfl) rfl rfl rfl dX3_goOnWith_2 (fun H locs hP hS => ?_)
  refine lv_aload_n hx hb dX3_goOnWith_5 rfl (lv_at hl 0 rfl) ?_
  refine lv_iload_n hx hb dX3_goOnWith_6 rfl (lv_at hl 1 rfl) ?_
  obtain ⟨g2, h4, hf⟩ := hs_bv_some hf
  refine hs_callv (va_runV (As := [.int v1]) (rest := []) ⟨hx, hb, hml, hown, hts⟩ (ctX3_push l B D E v0 v1 (hs_wI g v0 2 (0 : Int32)) _ h4) (cwV 1 hts (hs_gV (fun _ h => List.mem_cons_of_mem _ h) wq849 wq776 wq777 wq101 wq778) rfl rfl rfl (by decide +kernel) ⟨Nat.le_of_ble_eq_true rfl, Nat.le_of_ble_eq_true rfl⟩) (hs_preV (r := (RX3, TX3, 5)) hP hK h1 (by decide) rfl) rfl rfl hl.1 rfl (lv_room (Nat.le_of_ble_eq_true rfl)) dX3_goOnWith_7 ⟨(Nat.le_of_ble_eq_true rfl), (Nat.le_of_ble_eq_true rfl)⟩) hS (fun H locs hP hS => ?_)
  refine lv_aload_n hx hb dX3_goOnWith_10 rfl (lv_at hl 0 rfl) ?_
  refine lv_iload_n hx hb dX3_goOnWith_11 rfl (lv_at hl 2 rfl) ?_
  obtain ⟨h5, hf⟩ := hs_ck hf
  refine hs_puti (C := RX3) (T := TX3) (N := 5) hx hb hts (fun w h => List.mem_cons_of_mem _ (inlX3 w h)) tyX3 tyX3_ok nmX3 hown hK.1 hP hS h5 (by decide) rfl 4 (by decide) (hts _ (List.mem_cons_of_mem _ wq723)) (fun _ h => h) (Or.inl rfl) rfl rfl rfl dX3_goOnWith_12 (fun H locs hP hS => ?_)
  exact hs_vret hx hb hr hlocks hK hP hS hf dX3_goOnWith_15

theorem dX6_raise_0 : decode cX6_raise 0 = .ok (.aload_n 0, 1) := by decide +kernel
theorem dX6_raise_1 : decode cX6_raise 1 = .ok (.getfield 40, 3) := by decide +kernel
theorem dX6_raise_4 : decode cX6_raise 4 = .ok (.ifCond .le 53, 3) := by decide +kernel
theorem dX6_raise_7 : decode cX6_raise 7 = .ok (.aload_n 0, 1) := by decide +kernel
theorem dX6_raise_8 : decode cX6_raise 8 = .ok (.aload_n 0, 1) := by decide +kernel
theorem dX6_raise_9 : decode cX6_raise 9 = .ok (.getfield 40, 3) := by decide +kernel
theorem dX6_raise_12 : decode cX6_raise 12 = .ok (.iconst 1, 1) := by decide +kernel
theorem dX6_raise_13 : decode cX6_raise 13 = .ok (.isub, 1) := by decide +kernel
theorem dX6_raise_14 : decode cX6_raise 14 = .ok (.invokevirtual 59, 3) := by decide +kernel
theorem dX6_raise_17 : decode cX6_raise 17 = .ok (.astore_n 2, 1) := by decide +kernel
theorem dX6_raise_18 : decode cX6_raise 18 = .ok (.aload_n 2, 1) := by decide +kernel
theorem dX6_raise_19 : decode cX6_raise 19 = .ok (.getfield 66, 3) := by decide +kernel
theorem dX6_raise_22 : decode cX6_raise 22 = .ok (.aload_n 2, 1) := by decide +kernel
theorem dX6_raise_23 : decode cX6_raise 23 = .ok (.getfield 89, 3) := by decide +kernel
theorem dX6_raise_26 : decode cX6_raise 26 = .ok (.iload_n 1, 1) := by decide +kernel
theorem dX6_raise_27 : decode cX6_raise 27 = .ok (.invokevirtual 142, 3) := by decide +kernel
theorem dX6_raise_30 : decode cX6_raise 30 = .ok (.istore_n 3, 1) := by decide +kernel
theorem dX6_raise_31 : decode cX6_raise 31 = .ok (.iload_n 3, 1) := by decide +kernel
theorem dX6_raise_32 : decode cX6_raise 32 = .ok (.iconst (-1), 1) := by decide +kernel
theorem dX6_raise_33 : decode cX6_raise 33 = .ok (.if_icmp .eq 11, 3) := by decide +kernel
theorem dX6_raise_36 : decode cX6_raise 36 = .ok (.aload_n 2, 1) := by decide +kernel
theorem dX6_raise_37 : decode cX6_raise 37 = .ok (.iload_n 1, 1) := by decide +kernel
theorem dX6_raise_38 : decode cX6_raise 38 = .ok (.iload_n 3, 1) := by decide +kernel
theorem dX6_raise_39 : decode cX6_raise 39 = .ok (.invokevirtual 145, 3) := by decide +kernel
theorem dX6_raise_42 : decode cX6_raise 42 = .ok (.iconst 3, 1) := by decide +kernel
theorem dX6_raise_43 : decode cX6_raise 43 = .ok (.ireturn, 1) := by decide +kernel
theorem dX6_raise_44 : decode cX6_raise 44 = .ok (.aload_n 0, 1) := by decide +kernel
theorem dX6_raise_45 : decode cX6_raise 45 = .ok (.dup, 1) := by decide +kernel
theorem dX6_raise_46 : decode cX6_raise 46 = .ok (.getfield 40, 3) := by decide +kernel
theorem dX6_raise_49 : decode cX6_raise 49 = .ok (.iconst 1, 1) := by decide +kernel
theorem dX6_raise_50 : decode cX6_raise 50 = .ok (.isub, 1) := by decide +kernel
theorem dX6_raise_51 : decode cX6_raise 51 = .ok (.putfield 40, 3) := by decide +kernel
theorem dX6_raise_54 : decode cX6_raise 54 = .ok (.goto (-54), 3) := by decide +kernel
theorem dX6_raise_57 : decode cX6_raise 57 = .ok (.aload_n 0, 1) := by decide +kernel
theorem dX6_raise_58 : decode cX6_raise 58 = .ok (.iload_n 1, 1) := by decide +kernel
theorem dX6_raise_59 : decode cX6_raise 59 = .ok (.putfield 44, 3) := by decide +kernel
theorem dX6_raise_62 : decode cX6_raise 62 = .ok (.iconst 2, 1) := by decide +kernel
theorem dX6_raise_63 : decode cX6_raise 63 = .ok (.ireturn, 1) := by decide +kernel
abbrev wcX6_raise : List Cond := .code yX6_raise cX6_raise 4 (some .int) :: wsL_law
def lX6_raise_0 : Nat → Nat → Int32 → hs_S → Option (Nat × Nat × Int32 × hs_S)
  | 0, _, _, _ => none
  | n + 1, v0, v1, g =>
    if hs_kd g v0 = 5 then
    if (hs_I g v0 3) ≤ 0 then (
      some (0, 0, 0, g)
    ) else (
      hs_bd (fX6_frame v0 ((hs_I g v0 3) - (1 : Int32)) g) fun r3 g2 =>
      if hs_kd g2 r3 = 3 then
      if ¬ (hs_R g2 r3 3) = 0 then
      if hs_kd g2 ((hs_R g2 r3 3) - 1) = 6 then
      hs_bd (fX7_handlerFor ((hs_R g2 r3 3) - 1) (hs_I g2 r3 4) v1 g2) fun r9 g8 =>
      if r9 = (-1 : Int32) then (
        if hs_kd g8 v0 = 5 then
        lX6_raise_0 n v0 v1 (hs_wI g8 v0 3 ((hs_I g8 v0 3) - (1 : Int32)))
        else none
      ) else (
        some (1, r3, r9, g8)
      )
      else none else none else none
    )
    else none
theorem lX6_raise_0_s (n : Nat) (v0 : Nat) (v1 : Int32) (g : hs_S) : lX6_raise_0 (n + 1) v0 v1 g =
    if hs_kd g v0 = 5 then
    if (hs_I g v0 3) ≤ 0 then (
      some (0, 0, 0, g)
    ) else (
      hs_bd (fX6_frame v0 ((hs_I g v0 3) - (1 : Int32)) g) fun r3 g2 =>
      if hs_kd g2 r3 = 3 then
      if ¬ (hs_R g2 r3 3) = 0 then
      if hs_kd g2 ((hs_R g2 r3 3) - 1) = 6 then
      hs_bd (fX7_handlerFor ((hs_R g2 r3 3) - 1) (hs_I g2 r3 4) v1 g2) fun r9 g8 =>
      if r9 = (-1 : Int32) then (
        if hs_kd g8 v0 = 5 then
        lX6_raise_0 n v0 v1 (hs_wI g8 v0 3 ((hs_I g8 v0 3) - (1 : Int32)))
        else none
      ) else (
        some (1, r3, r9, g8)
      )
      else none else none else none
    )
    else none := rfl
def fX6_raise (v0 : Nat) (v1 : Int32) (g : hs_S) : Option (Int32 × hs_S) :=
  hs_b4 (lX6_raise_0 hs_N v0 v1 g) fun k14 x12 x13 g15 =>
  if k14 = 0 then (
    if hs_kd g15 v0 = 5 then
    some ((2 : Int32), (hs_wI g15 v0 5 v1))
    else none
  ) else (
    if hs_kd g15 x12 = 3 then
    hs_bv (fX3_goOnWith x12 v1 x13 g15) fun g19 =>
    some ((3 : Int32), g19)
    else none
  )
abbrev rmX6_raise : Room := { frames := 3, cells := 0, slots := 0, locals := 68 }
set_option maxHeartbeats 4000000 in
set_option maxRecDepth 100000 in
theorem wX6_raise_0 {p : Program} {l : Launch} {e : Env} {s : State} {m : MethodId} {args : Array Value} {below : List Frame} {meth : Method} {c : Code} {B : Nat} {D : va_G} {E : Nat → ClassId} (hX : hs_cx cX6_raise (some .int) 4 RX6 wcX6_raise p s m args meth c D E) {Q : State → Prop} {o : Nat × Nat × Int32 × hs_S} {v0 : Nat} {v1 : Int32} (hex0 : o.1 = 0 → ∀ (H : Heap) (locs : List Loc) (ls : Array Slot), hs_P B D E (o.2.2.2) H → hs_Sx B s.heap H locs → lv_has ls 4 [(0, .ref (B + v0)), (1, .int v1)] → W p l e rmX6_raise s m args below meth c H locs 0 0 Q (F0 m 57 ls [])) (hex1 : o.1 = 1 → ∀ (H : Heap) (locs : List Loc) (ls : Array Slot), hs_P B D E (o.2.2.2) H → hs_Sx B s.heap H locs → lv_has ls 4 [(1, .int v1), (2, .ref (B + (o.2.1))), (3, .int (o.2.2.1))] → W p l e rmX6_raise s m args below meth c H locs 0 0 Q (F0 m 36 ls [])) : ∀ (n : Nat)  (g : hs_S), lX6_raise_0 n v0 v1 g = some o → ∀ (H : Heap) (locs : List Loc) (ls : Array Slot), hs_P B D E g H → hs_Sx B s.heap H locs → lv_has ls 4 [(0, .ref (B + v0)), (1, .int v1)] → W p l e rmX6_raise s m args below meth c H locs 0 0 Q (F0 m 0 ls []) := by
  obtain ⟨hx, hb, hr, hml, hown, hts, hlocks, hK⟩ := id hX
  intro n
  induction n with
  | zero =>
    intro g hf
    cases hf
  | succ n ih =>
    intro g hf H locs ls hP hS hl
    replace hf := (lX6_raise_0_s n v0 v1 g).symm.trans hf
    refine lv_aload_n hx hb dX6_raise_0 rfl (lv_at hl 0 rfl) ?_
    obtain ⟨h1, hf⟩ := hs_ck hf
    refine hs_geti (C := RX6) (T := TX6) (N := 8) hx hb hts (fun w h => List.mem_cons_of_mem _ (inlX6 w h)) hown hK.1 hP h1 (by decide) rfl 3 (by decide) (hts _ (List.mem_cons_of_mem _ wq701)) (fun _ h => h) rfl dX6_raise_1 ?_
    refine lv_if_le (tgt := 57) hx hb dX6_raise_4 (by decide) (fun hc => ?_) (fun hc => ?_)
    · replace hf := hs_t hf hc
      obtain rfl := Option.some.inj hf
      exact hex0 rfl _ _ _ hP hS (lv_sub hl [0, 1] rfl)
    · replace hf := hs_f hf hc
      refine lv_aload_n hx hb dX6_raise_7 rfl (lv_at hl 0 rfl) ?_
      refine lv_aload_n hx hb dX6_raise_8 rfl (lv_at hl 0 rfl) ?_
      refine hs_geti (C := RX6) (T := TX6) (N := 8) hx hb hts (fun w h => List.mem_cons_of_mem _ (inlX6 w h)) hown hK.1 hP h1 (by decide) rfl 3 (by decide) (hts _ (List.mem_cons_of_mem _ wq701)) (fun _ h => h) rfl dX6_raise_9 ?_
      refine lv_iconst (v := 1) hx hb dX6_raise_12 (by decide) ?_
      refine lv_isub hx hb dX6_raise_13 ?_
      obtain ⟨r3, g2, h4, hf⟩ := hs_bd_some hf
      refine hs_callr (va_runV (As := [.int ((hs_I g v0 3) - (1 : Int32))]) (rest := []) ⟨hx, hb, hml, hown, hts⟩ (ctX6_frame l B D E v0 ((hs_I g v0 3) - (1 : Int32)) g _ h4) (cwV 1 hts (hs_gV (fun _ h => List.mem_cons_of_mem _ h) wq715 wq716 wq717 wq34 wq718) rfl rfl rfl (by decide +kernel) ⟨Nat.le_of_ble_eq_true rfl, Nat.le_of_ble_eq_true rfl⟩) (hs_preV (r := (RX6, TX6, 8)) hP hK h1 (by decide) rfl) rfl rfl hl.1 rfl (lv_room (Nat.le_of_ble_eq_true rfl)) dX6_raise_14 ⟨(Nat.le_of_ble_eq_true rfl), (Nat.le_of_ble_eq_true rfl)⟩) hS (fun H locs hP hS => ?_)
      refine lv_astore_n (lv' := [(2, .ref (B + r3)), (0, .ref (B + v0)), (1, .int v1)]) hx hb dX6_raise_17 rfl hl (by decide) rfl (fun ls hl => ?_)
      refine lv_aload_n hx hb dX6_raise_18 rfl (lv_at hl 0 rfl) ?_
      obtain ⟨h5, hf⟩ := hs_ck hf
      obtain ⟨h6, hf⟩ := hs_ck hf
      refine hs_getr (C := RX3) (T := TX3) (N := 5) hx hb hts (fun w h => List.mem_cons_of_mem _ (inlX3 w h)) hown hK.1 hP h5 (by decide) rfl 3 (by decide) (hts _ (List.mem_cons_of_mem _ wq699)) (fun _ h => h) rfl h6 dX6_raise_19 ?_
      refine lv_aload_n hx hb dX6_raise_22 rfl (lv_at hl 0 rfl) ?_
      refine hs_geti (C := RX3) (T := TX3) (N := 5) hx hb hts (fun w h => List.mem_cons_of_mem _ (inlX3 w h)) hown hK.1 hP h5 (by decide) rfl 4 (by decide) (hts _ (List.mem_cons_of_mem _ wq735)) (fun _ h => h) rfl dX6_raise_23 ?_
      refine lv_iload_n hx hb dX6_raise_26 rfl (lv_at hl 2 rfl) ?_
      obtain ⟨h7, hf⟩ := hs_ck hf
      obtain ⟨r9, g8, h10, hf⟩ := hs_bd_some hf
      refine hs_calli (va_runV (As := [.int (hs_I g2 r3 4), .int v1]) (rest := []) ⟨hx, hb, hml, hown, hts⟩ (ctX7_handlerFor l B D E ((hs_R g2 r3 3) - 1) (hs_I g2 r3 4) v1 g2 _ h10) (cwV 2 hts (hs_gV (fun _ h => List.mem_cons_of_mem _ h) wq840 wq841 wq842 wq43 wq843) rfl rfl rfl (by decide +kernel) ⟨Nat.le_of_ble_eq_true rfl, Nat.le_of_ble_eq_true rfl⟩) (hs_preV (r := (RX7, TX7, 11)) hP hK h7 (by decide) rfl) rfl rfl hl.1 rfl (lv_room (Nat.le_of_ble_eq_true rfl)) dX6_raise_27 ⟨(Nat.le_of_ble_eq_true rfl), (Nat.le_of_ble_eq_true rfl)⟩) hS (fun H locs hP hS => ?_)
      refine lv_istore_n (lv' := [(3, .int r9), (2, .ref (B + r3)), (0, .ref (B + v0)), (1, .int v1)]) hx hb dX6_raise_30 rfl hl (by decide) rfl (fun ls hl => ?_)
      refine lv_iload_n hx hb dX6_raise_31 rfl (lv_at hl 0 rfl) ?_
      refine lv_iconst (v := -1) hx hb dX6_raise_32 (by decide) ?_
      refine lv_icmp_eq (tgt := 44) hx hb dX6_raise_33 (by decide) (fun hc => ?_) (fun hc => ?_)
      · replace hf := hs_t hf hc
        refine lv_aload_n hx hb dX6_raise_44 rfl (lv_at hl 2 rfl) ?_
        refine lv_dup hx hb dX6_raise_45 rfl ?_
        obtain ⟨h11, hf⟩ := hs_ck hf
        refine hs_geti (C := RX6) (T := TX6) (N := 8) hx hb hts (fun w h => List.mem_cons_of_mem _ (inlX6 w h)) hown hK.1 hP h11 (by decide) rfl 3 (by decide) (hts _ (List.mem_cons_of_mem _ wq701)) (fun _ h => h) rfl dX6_raise_46 ?_
        refine lv_iconst (v := 1) hx hb dX6_raise_49 (by decide) ?_
        refine lv_isub hx hb dX6_raise_50 ?_
        refine hs_puti (C := RX6) (T := TX6) (N := 8) hx hb hts (fun w h => List.mem_cons_of_mem _ (inlX6 w h)) tyX6 tyX6_ok nmX6 hown hK.1 hP hS h11 (by decide) rfl 3 (by decide) (hts _ (List.mem_cons_of_mem _ wq701)) (fun _ h => h) (Or.inl rfl) rfl rfl rfl dX6_raise_51 (fun H locs hP hS => ?_)
        refine lv_goto (tgt := 0) hx hb dX6_raise_54 (by decide) ?_
        exact ih _ hf _ _ _ hP hS (lv_sub hl [2, 3] rfl)
      · replace hf := hs_f hf hc
        obtain rfl := Option.some.inj hf
        exact hex1 rfl _ _ _ hP hS (lv_sub hl [3, 1, 0] rfl)

set_option maxHeartbeats 4000000 in
set_option maxRecDepth 100000 in
theorem ctX6_raise (l : Launch) (B : Nat) (D : va_G) (E : Nat → ClassId) (v0 : Nat) (v1 : Int32) (g : hs_S) (o : Int32 × hs_S) (hf : fX6_raise v0 v1 g = some o) : Met l yX6_raise wcX6_raise rmX6_raise (hs_Pc B D E g [.ref (B + v0), .int v1]) (hs_Qi B D E o) (0) (0) (hs_F B) := by
  refine Met.ofW (cc := cX6_raise) (maxL := 4) (ret := (some .int)) (by decide) rfl ?_
  intro p e s m args below meth c s₁ Bd hml hv
  obtain ⟨rfl, hP, hK⟩ := hv
  have hx := Bd.exec
  have hb := Bd.bytes
  have hr := Bd.returns
  have hts := atoms_spec (ws := wcX6_raise) Bd.pre
  have hown : s.vm.findClass RX6 = some m.cls := findClass_of_methodNamed Bd.named
  have hlocks := Bd.notSynchronized
  have hS : hs_Sx B s.heap s.heap [] := va_S.rf
  have hX : hs_cx cX6_raise (some .int) 4 RX6 wcX6_raise p s m (List.toArray [.ref (B + v0), .int v1]) meth c D E := ⟨hx, hb, hr, hml, hown, hts, hlocks, hK⟩
  have hl := lv_entry ([.ref (B + v0), .int v1]) (n := 4) (Nat.le_of_ble_eq_true rfl)
  rw [lg_entry_eq]
  generalize (lg_sl ([.ref (B + v0), .int v1]) ++ List.replicate (4 - (lg_sl ([.ref (B + v0), .int v1])).length) Slot.unset).toArray = ls at hl ⊢
  have hl : lv_has ls 4 [(0, .ref (B + v0)), (1, .int v1)] := hl
  have hP : hs_P B D E g s.heap := hP
  unfold fX6_raise at hf
  obtain ⟨k14, x12, x13, g15, h16, hf⟩ := hs_b4_some hf
  refine wX6_raise_0 hX (fun hlab H locs ls hP hS hl => ?_) (fun hlab H locs ls hP hS hl => ?_) hs_N _ h16 _ _ _ hP hS (lv_sub hl [0, 1] rfl)
  · replace hlab : k14 = 0 := hlab
    replace hf := hs_t hf hlab
    refine lv_aload_n hx hb dX6_raise_57 rfl (lv_at hl 0 rfl) ?_
    refine lv_iload_n hx hb dX6_raise_58 rfl (lv_at hl 1 rfl) ?_
    obtain ⟨h17, hf⟩ := hs_ck hf
    refine hs_puti (C := RX6) (T := TX6) (N := 8) hx hb hts (fun w h => List.mem_cons_of_mem _ (inlX6 w h)) tyX6 tyX6_ok nmX6 hown hK.1 hP hS h17 (by decide) rfl 5 (by decide) (hts _ (List.mem_cons_of_mem _ wq707)) (fun _ h => h) (Or.inl rfl) rfl rfl rfl dX6_raise_59 (fun H locs hP hS => ?_)
    refine lv_iconst (v := 2) hx hb dX6_raise_62 (by decide) ?_
    exact hs_iret hx hb hr hlocks rfl hK hP hS hf dX6_raise_63
  · replace hlab : k14 = 1 := hlab
    replace hf := hs_f hf (by rw [hlab]; decide)
    refine lv_aload_n hx hb dX6_raise_36 rfl (lv_at hl 1 rfl) ?_
    refine lv_iload_n hx hb dX6_raise_37 rfl (lv_at hl 0 rfl) ?_
    refine lv_iload_n hx hb dX6_raise_38 rfl (lv_at hl 2 rfl) ?_
    obtain ⟨h18, hf⟩ := hs_ck hf
    obtain ⟨g19, h21, hf⟩ := hs_bv_some hf
    refine hs_callv (va_runV (As := [.int v1, .int x13]) (rest := []) ⟨hx, hb, hml, hown, hts⟩ (ctX3_goOnWith l B D E x12 v1 x13 g15 _ h21) (cwV 2 hts (hs_gV (fun _ h => List.mem_cons_of_mem _ h) wq845 wq846 wq847 wq101 wq848) rfl rfl rfl (by decide +kernel) ⟨Nat.le_of_ble_eq_true rfl, Nat.le_of_ble_eq_true rfl⟩) (hs_preV (r := (RX3, TX3, 5)) hP hK h18 (by decide) rfl) rfl rfl hl.1 rfl (lv_room (Nat.le_of_ble_eq_true rfl)) dX6_raise_39 ⟨(Nat.le_of_ble_eq_true rfl), (Nat.le_of_ble_eq_true rfl)⟩) hS (fun H locs hP hS => ?_)
    refine lv_iconst (v := 3) hx hb dX6_raise_42 (by decide) ?_
    exact hs_iret hx hb hr hlocks rfl hK hP hS hf dX6_raise_43

theorem dX6_goOn_0 : decode cX6_goOn 0 = .ok (.aload_n 1, 1) := by decide +kernel
theorem dX6_goOn_1 : decode cX6_goOn 1 = .ok (.invokevirtual 83, 3) := by decide +kernel
theorem dX6_goOn_4 : decode cX6_goOn 4 = .ok (.istore_n 2, 1) := by decide +kernel
theorem dX6_goOn_5 : decode cX6_goOn 5 = .ok (.iload_n 2, 1) := by decide +kernel
theorem dX6_goOn_6 : decode cX6_goOn 6 = .ok (.sipush 202, 3) := by decide +kernel
theorem dX6_goOn_9 : decode cX6_goOn 9 = .ok (.if_icmp .ne 23, 3) := by decide +kernel
theorem dX6_goOn_12 : decode cX6_goOn 12 = .ok (.aload_n 0, 1) := by decide +kernel
theorem dX6_goOn_13 : decode cX6_goOn 13 = .ok (.aload_n 1, 1) := by decide +kernel
theorem dX6_goOn_14 : decode cX6_goOn 14 = .ok (.aload_n 1, 1) := by decide +kernel
theorem dX6_goOn_15 : decode cX6_goOn 15 = .ok (.getfield 66, 3) := by decide +kernel
theorem dX6_goOn_18 : decode cX6_goOn 18 = .ok (.aload_n 1, 1) := by decide +kernel
theorem dX6_goOn_19 : decode cX6_goOn 19 = .ok (.getfield 89, 3) := by decide +kernel
theorem dX6_goOn_22 : decode cX6_goOn 22 = .ok (.iconst 1, 1) := by decide +kernel
theorem dX6_goOn_23 : decode cX6_goOn 23 = .ok (.iadd, 1) := by decide +kernel
theorem dX6_goOn_24 : decode cX6_goOn 24 = .ok (.invokevirtual 92, 3) := by decide +kernel
theorem dX6_goOn_27 : decode cX6_goOn 27 = .ok (.iconst 5, 1) := by decide +kernel
theorem dX6_goOn_28 : decode cX6_goOn 28 = .ok (.invokevirtual 96, 3) := by decide +kernel
theorem dX6_goOn_31 : decode cX6_goOn 31 = .ok (.ireturn, 1) := by decide +kernel
theorem dX6_goOn_32 : decode cX6_goOn 32 = .ok (.iload_n 2, 1) := by decide +kernel
theorem dX6_goOn_33 : decode cX6_goOn 33 = .ok (.sipush 203, 3) := by decide +kernel
theorem dX6_goOn_36 : decode cX6_goOn 36 = .ok (.if_icmp .ne 18, 3) := by decide +kernel
theorem dX6_goOn_39 : decode cX6_goOn 39 = .ok (.aload_n 0, 1) := by decide +kernel
theorem dX6_goOn_40 : decode cX6_goOn 40 = .ok (.aload_n 1, 1) := by decide +kernel
theorem dX6_goOn_41 : decode cX6_goOn 41 = .ok (.iconst 0, 1) := by decide +kernel
theorem dX6_goOn_42 : decode cX6_goOn 42 = .ok (.aload_n 1, 1) := by decide +kernel
theorem dX6_goOn_43 : decode cX6_goOn 43 = .ok (.invokevirtual 100, 3) := by decide +kernel
theorem dX6_goOn_46 : decode cX6_goOn 46 = .ok (.invokestatic 103, 3) := by decide +kernel
theorem dX6_goOn_49 : decode cX6_goOn 49 = .ok (.iconst 1, 1) := by decide +kernel
theorem dX6_goOn_50 : decode cX6_goOn 50 = .ok (.invokevirtual 96, 3) := by decide +kernel
theorem dX6_goOn_53 : decode cX6_goOn 53 = .ok (.ireturn, 1) := by decide +kernel
theorem dX6_goOn_54 : decode cX6_goOn 54 = .ok (.aload_n 0, 1) := by decide +kernel
theorem dX6_goOn_55 : decode cX6_goOn 55 = .ok (.getfield 50, 3) := by decide +kernel
theorem dX6_goOn_58 : decode cX6_goOn 58 = .ok (.sipush 20000, 3) := by decide +kernel
theorem dX6_goOn_61 : decode cX6_goOn 61 = .ok (.if_icmp .lt 5, 3) := by decide +kernel
theorem dX6_goOn_64 : decode cX6_goOn 64 = .ok (.iconst 1, 1) := by decide +kernel
theorem dX6_goOn_65 : decode cX6_goOn 65 = .ok (.ireturn, 1) := by decide +kernel
theorem dX6_goOn_66 : decode cX6_goOn 66 = .ok (.aload_n 0, 1) := by decide +kernel
theorem dX6_goOn_67 : decode cX6_goOn 67 = .ok (.dup, 1) := by decide +kernel
theorem dX6_goOn_68 : decode cX6_goOn 68 = .ok (.getfield 50, 3) := by decide +kernel
theorem dX6_goOn_71 : decode cX6_goOn 71 = .ok (.iconst 1, 1) := by decide +kernel
theorem dX6_goOn_72 : decode cX6_goOn 72 = .ok (.iadd, 1) := by decide +kernel
theorem dX6_goOn_73 : decode cX6_goOn 73 = .ok (.putfield 50, 3) := by decide +kernel
theorem dX6_goOn_76 : decode cX6_goOn 76 = .ok (.iload_n 2, 1) := by decide +kernel
theorem dX6_goOn_77 : decode cX6_goOn 77 = .ok (.sipush 184, 3) := by decide +kernel
theorem dX6_goOn_80 : decode cX6_goOn 80 = .ok (.if_icmp .ne 9, 3) := by decide +kernel
theorem dX6_goOn_83 : decode cX6_goOn 83 = .ok (.aload_n 0, 1) := by decide +kernel
theorem dX6_goOn_84 : decode cX6_goOn 84 = .ok (.aload_n 1, 1) := by decide +kernel
theorem dX6_goOn_85 : decode cX6_goOn 85 = .ok (.invokevirtual 109, 3) := by decide +kernel
theorem dX6_goOn_88 : decode cX6_goOn 88 = .ok (.ireturn, 1) := by decide +kernel
theorem dX6_goOn_89 : decode cX6_goOn 89 = .ok (.iload_n 2, 1) := by decide +kernel
theorem dX6_goOn_90 : decode cX6_goOn 90 = .ok (.sipush 172, 3) := by decide +kernel
theorem dX6_goOn_93 : decode cX6_goOn 93 = .ok (.if_icmp .ne 12, 3) := by decide +kernel
theorem dX6_goOn_96 : decode cX6_goOn 96 = .ok (.aload_n 0, 1) := by decide +kernel
theorem dX6_goOn_97 : decode cX6_goOn 97 = .ok (.aload_n 1, 1) := by decide +kernel
theorem dX6_goOn_98 : decode cX6_goOn 98 = .ok (.invokevirtual 112, 3) := by decide +kernel
theorem dX6_goOn_101 : decode cX6_goOn 101 = .ok (.invokevirtual 115, 3) := by decide +kernel
theorem dX6_goOn_104 : decode cX6_goOn 104 = .ok (.ireturn, 1) := by decide +kernel
theorem dX6_goOn_105 : decode cX6_goOn 105 = .ok (.iload_n 2, 1) := by decide +kernel
theorem dX6_goOn_106 : decode cX6_goOn 106 = .ok (.invokestatic 118, 3) := by decide +kernel
theorem dX6_goOn_109 : decode cX6_goOn 109 = .ok (.ifCond .eq 10, 3) := by decide +kernel
theorem dX6_goOn_112 : decode cX6_goOn 112 = .ok (.aload_n 0, 1) := by decide +kernel
theorem dX6_goOn_113 : decode cX6_goOn 113 = .ok (.aload_n 1, 1) := by decide +kernel
theorem dX6_goOn_114 : decode cX6_goOn 114 = .ok (.iload_n 2, 1) := by decide +kernel
theorem dX6_goOn_115 : decode cX6_goOn 115 = .ok (.invokevirtual 122, 3) := by decide +kernel
theorem dX6_goOn_118 : decode cX6_goOn 118 = .ok (.ireturn, 1) := by decide +kernel
theorem dX6_goOn_119 : decode cX6_goOn 119 = .ok (.aload_n 0, 1) := by decide +kernel
theorem dX6_goOn_120 : decode cX6_goOn 120 = .ok (.aload_n 1, 1) := by decide +kernel
theorem dX6_goOn_121 : decode cX6_goOn 121 = .ok (.iload_n 2, 1) := by decide +kernel
theorem dX6_goOn_122 : decode cX6_goOn 122 = .ok (.invokevirtual 126, 3) := by decide +kernel
theorem dX6_goOn_125 : decode cX6_goOn 125 = .ok (.istore_n 3, 1) := by decide +kernel
theorem dX6_goOn_126 : decode cX6_goOn 126 = .ok (.iload_n 3, 1) := by decide +kernel
theorem dX6_goOn_127 : decode cX6_goOn 127 = .ok (.ifCond .eq 9, 3) := by decide +kernel
theorem dX6_goOn_130 : decode cX6_goOn 130 = .ok (.aload_n 0, 1) := by decide +kernel
theorem dX6_goOn_131 : decode cX6_goOn 131 = .ok (.iload_n 3, 1) := by decide +kernel
theorem dX6_goOn_132 : decode cX6_goOn 132 = .ok (.invokevirtual 129, 3) := by decide +kernel
theorem dX6_goOn_135 : decode cX6_goOn 135 = .ok (.ireturn, 1) := by decide +kernel
theorem dX6_goOn_136 : decode cX6_goOn 136 = .ok (.aload_n 1, 1) := by decide +kernel
theorem dX6_goOn_137 : decode cX6_goOn 137 = .ok (.dup, 1) := by decide +kernel
theorem dX6_goOn_138 : decode cX6_goOn 138 = .ok (.getfield 89, 3) := by decide +kernel
theorem dX6_goOn_141 : decode cX6_goOn 141 = .ok (.iload_n 2, 1) := by decide +kernel
theorem dX6_goOn_142 : decode cX6_goOn 142 = .ok (.invokestatic 132, 3) := by decide +kernel
theorem dX6_goOn_145 : decode cX6_goOn 145 = .ok (.iadd, 1) := by decide +kernel
theorem dX6_goOn_146 : decode cX6_goOn 146 = .ok (.putfield 89, 3) := by decide +kernel
theorem dX6_goOn_149 : decode cX6_goOn 149 = .ok (.iconst 3, 1) := by decide +kernel
theorem dX6_goOn_150 : decode cX6_goOn 150 = .ok (.ireturn, 1) := by decide +kernel
abbrev wcX6_goOn : List Cond := .code yX6_goOn cX6_goOn 4 (some .int) :: wsL_law
def fX6_goOn (v0 : Nat) (v1 : Nat) (g : hs_S) : Option (Int32 × hs_S) :=
  if hs_kd g v1 = 3 then
  hs_bd (fX3_kind v1 g) fun r3 g2 =>
  if r3 = (202 : Int32) then (
    if hs_kd g2 v1 = 3 then
    if ¬ (hs_R g2 v1 3) = 0 then
    if hs_kd g2 ((hs_R g2 v1 3) - 1) = 6 then
    hs_bd (fX7_fourAt ((hs_R g2 v1 3) - 1) ((hs_I g2 v1 4) + (1 : Int32)) g2) fun r49 g48 =>
    if hs_kd g48 v0 = 5 then
    hs_bd (fX6_pay v0 v1 r49 (5 : Int32) g48) fun r53 g52 =>
    some (r53, g52)
    else none else none else none else none
  ) else (
    if r3 = (203 : Int32) then (
      if hs_kd g2 v1 = 3 then
      hs_bd (fX3_peek v1 g2) fun r39 g38 =>
      if hs_kd g38 v0 = 5 then
      hs_bd (fX6_pay v0 v1 (if (0 : Int32) < r39 then r39 else (0 : Int32)) (1 : Int32) g38) fun r43 g42 =>
      some (r43, g42)
      else none else none
    ) else (
      if hs_kd g2 v0 = 5 then
      if (hs_I g2 v0 7) < (20000 : Int32) then (
        if r3 = (184 : Int32) then (
          hs_bd (fX6_call v0 v1 (hs_wI g2 v0 7 ((hs_I g2 v0 7) + (1 : Int32)))) fun r35 g34 =>
          some (r35, g34)
        ) else (
          if r3 = (172 : Int32) then (
            if hs_kd (hs_wI g2 v0 7 ((hs_I g2 v0 7) + (1 : Int32))) v1 = 3 then
            hs_bd (fX3_pop v1 (hs_wI g2 v0 7 ((hs_I g2 v0 7) + (1 : Int32)))) fun r28 g27 =>
            if hs_kd g27 v0 = 5 then
            hs_bd (fX6_leave v0 r28 g27) fun r32 g31 =>
            some (r32, g31)
            else none else none
          ) else (
            hs_bd (fX4_isJump r3 (hs_wI g2 v0 7 ((hs_I g2 v0 7) + (1 : Int32)))) fun r7 g6 =>
            if r7 = 0 then (
              if hs_kd g6 v0 = 5 then
              hs_bd (fX6_act v0 v1 r3 g6) fun r11 g10 =>
              if r11 = 0 then (
                if hs_kd g10 v1 = 3 then
                hs_bd (fX4_sizeOf r3 g10) fun r15 g14 =>
                if hs_kd g14 v1 = 3 then
                some ((3 : Int32), (hs_wI g14 v1 4 ((hs_I g10 v1 4) + r15)))
                else none else none
              ) else (
                if hs_kd g10 v0 = 5 then
                hs_bd (fX6_raise v0 r11 g10) fun r20 g19 =>
                some (r20, g19)
                else none
              )
              else none
            ) else (
              if hs_kd g6 v0 = 5 then
              hs_bd (fX6_jump v0 v1 r3 g6) fun r24 g23 =>
              some (r24, g23)
              else none
            )
          )
        )
      ) else (
        some ((1 : Int32), g2)
      )
      else none
    )
  )
  else none
abbrev rmX6_goOn : Room := { frames := 5, cells := 0, slots := 0, locals := 115 }
set_option maxHeartbeats 4000000 in
set_option maxRecDepth 100000 in
theorem ctX6_goOn (l : Launch) (B : Nat) (D : va_G) (E : Nat → ClassId) (v0 : Nat) (v1 : Nat) (g : hs_S) (o : Int32 × hs_S) (hf : fX6_goOn v0 v1 g = some o) : Met l yX6_goOn wcX6_goOn rmX6_goOn (hs_Pc B D E g [.ref (B + v0), .ref (B + v1)]) (hs_Qi B D E o) (0) (0) (hs_F B) := by
  refine Met.ofW (cc := cX6_goOn) (maxL := 4) (ret := (some .int)) (by decide) rfl ?_
  intro p e s m args below meth c s₁ Bd hml hv
  obtain ⟨rfl, hP, hK⟩ := hv
  have hx := Bd.exec
  have hb := Bd.bytes
  have hr := Bd.returns
  have hts := atoms_spec (ws := wcX6_goOn) Bd.pre
  have hown : s.vm.findClass RX6 = some m.cls := findClass_of_methodNamed Bd.named
  have hlocks := Bd.notSynchronized
  have hS : hs_Sx B s.heap s.heap [] := va_S.rf
  have hX : hs_cx cX6_goOn (some .int) 4 RX6 wcX6_goOn p s m (List.toArray [.ref (B + v0), .ref (B + v1)]) meth c D E := ⟨hx, hb, hr, hml, hown, hts, hlocks, hK⟩
  have hl := lv_entry ([.ref (B + v0), .ref (B + v1)]) (n := 4) (Nat.le_of_ble_eq_true rfl)
  rw [lg_entry_eq]
  generalize (lg_sl ([.ref (B + v0), .ref (B + v1)]) ++ List.replicate (4 - (lg_sl ([.ref (B + v0), .ref (B + v1)])).length) Slot.unset).toArray = ls at hl ⊢
  have hl : lv_has ls 4 [(0, .ref (B + v0)), (1, .ref (B + v1))] := hl
  have hP : hs_P B D E g s.heap := hP
  unfold fX6_goOn at hf
  refine lv_aload_n hx hb dX6_goOn_0 rfl (lv_at hl 1 rfl) ?_
  obtain ⟨h1, hf⟩ := hs_ck hf
  obtain ⟨r3, g2, h4, hf⟩ := hs_bd_some hf
  refine hs_calli (va_runV (As := []) (rest := []) ⟨hx, hb, hml, hown, hts⟩ (ctX3_kind l B D E v1 g _ h4) (cwV 0 hts (hs_gV (fun _ h => List.mem_cons_of_mem _ h) wq737 wq738 wq739 wq101 wq740) rfl rfl rfl (by decide +kernel) ⟨Nat.le_of_ble_eq_true rfl, Nat.le_of_ble_eq_true rfl⟩) (hs_preV (r := (RX3, TX3, 5)) hP hK h1 (by decide) rfl) rfl rfl hl.1 rfl (lv_room (Nat.le_of_ble_eq_true rfl)) dX6_goOn_1 ⟨(Nat.le_of_ble_eq_true rfl), (Nat.le_of_ble_eq_true rfl)⟩) hS (fun H locs hP hS => ?_)
  refine lv_istore_n (lv' := [(2, .int r3), (0, .ref (B + v0)), (1, .ref (B + v1))]) hx hb dX6_goOn_4 rfl hl (by decide) rfl (fun ls hl => ?_)
  refine lv_iload_n hx hb dX6_goOn_5 rfl (lv_at hl 0 rfl) ?_
  refine lv_sipush (v := 202) hx hb dX6_goOn_6 (by decide) ?_
  refine lv_icmp_ne (tgt := 32) hx hb dX6_goOn_9 (by decide) (fun hc => ?_) (fun hc => ?_)
  · replace hf := hs_f hf hc
    refine lv_iload_n hx hb dX6_goOn_32 rfl (lv_at hl 0 rfl) ?_
    refine lv_sipush (v := 203) hx hb dX6_goOn_33 (by decide) ?_
    refine lv_icmp_ne (tgt := 54) hx hb dX6_goOn_36 (by decide) (fun hc => ?_) (fun hc => ?_)
    · replace hf := hs_f hf hc
      refine lv_aload_n hx hb dX6_goOn_54 rfl (lv_at hl 1 rfl) ?_
      obtain ⟨h5, hf⟩ := hs_ck hf
      refine hs_geti (C := RX6) (T := TX6) (N := 8) hx hb hts (fun w h => List.mem_cons_of_mem _ (inlX6 w h)) hown hK.1 hP h5 (by decide) rfl 7 (by decide) (hts _ (List.mem_cons_of_mem _ wq709)) (fun _ h => h) rfl dX6_goOn_55 ?_
      refine lv_sipush (v := 20000) hx hb dX6_goOn_58 (by decide) ?_
      refine lv_icmp_lt (tgt := 66) hx hb dX6_goOn_61 (by decide) (fun hc => ?_) (fun hc => ?_)
      · replace hf := hs_t hf hc
        refine lv_aload_n hx hb dX6_goOn_66 rfl (lv_at hl 1 rfl) ?_
        refine lv_dup hx hb dX6_goOn_67 rfl ?_
        refine hs_geti (C := RX6) (T := TX6) (N := 8) hx hb hts (fun w h => List.mem_cons_of_mem _ (inlX6 w h)) hown hK.1 hP h5 (by decide) rfl 7 (by decide) (hts _ (List.mem_cons_of_mem _ wq709)) (fun _ h => h) rfl dX6_goOn_68 ?_
        refine lv_iconst (v := 1) hx hb dX6_goOn_71 (by decide) ?_
        refine lv_iadd hx hb dX6_goOn_72 ?_
        refine hs_puti (C := RX6) (T := TX6) (N := 8) hx hb hts (fun w h => List.mem_cons_of_mem _ (inlX6 w h)) tyX6 tyX6_ok nmX6 hown hK.1 hP hS h5 (by decide) rfl 7 (by decide) (hts _ (List.mem_cons_of_mem _ wq709)) (fun _ h => h) (Or.inl rfl) rfl rfl rfl dX6_goOn_73 (fun H locs hP hS => ?_)
        refine lv_iload_n hx hb dX6_goOn_76 rfl (lv_at hl 0 rfl) ?_
        refine lv_sipush (v := 184) hx hb dX6_goOn_77 (by decide) ?_
        refine lv_icmp_ne (tgt := 89) hx hb dX6_goOn_80 (by decide) (fun hc => ?_) (fun hc => ?_)
        · replace hf := hs_f hf hc
          refine lv_iload_n hx hb dX6_goOn_89 rfl (lv_at hl 0 rfl) ?_
          refine lv_sipush (v := 172) hx hb dX6_goOn_90 (by decide) ?_
          refine lv_icmp_ne (tgt := 105) hx hb dX6_goOn_93 (by decide) (fun hc => ?_) (fun hc => ?_)
          · replace hf := hs_f hf hc
            refine lv_iload_n hx hb dX6_goOn_105 rfl (lv_at hl 0 rfl) ?_
            obtain ⟨r7, g6, h8, hf⟩ := hs_bd_some hf
            refine hs_calli (va_runS (As := [.int r3]) (rest := []) ⟨hx, hb, hml, hown, hts⟩ (ctX4_isJump l B D E r3 (hs_wI g2 v0 7 ((hs_I g2 v0 7) + (1 : Int32))) _ h8) (va_cwS 1 hts (hs_gS (fun _ h => List.mem_cons_of_mem _ h) wq780 wq307 wq258 wq308) rfl rfl rfl (by decide +kernel) ⟨Nat.le_of_ble_eq_true rfl, Nat.le_of_ble_eq_true rfl⟩) (hs_pre hP hK) rfl rfl hl.1 rfl (lv_room (Nat.le_of_ble_eq_true rfl)) dX6_goOn_106 ⟨(Nat.le_of_ble_eq_true rfl), (Nat.le_of_ble_eq_true rfl)⟩) hS (fun H locs hP hS => ?_)
            refine lv_if_eq (tgt := 119) hx hb dX6_goOn_109 (by decide) (fun hc => ?_) (fun hc => ?_)
            · replace hf := hs_t hf hc
              refine lv_aload_n hx hb dX6_goOn_119 rfl (lv_at hl 1 rfl) ?_
              refine lv_aload_n hx hb dX6_goOn_120 rfl (lv_at hl 2 rfl) ?_
              refine lv_iload_n hx hb dX6_goOn_121 rfl (lv_at hl 0 rfl) ?_
              obtain ⟨h9, hf⟩ := hs_ck hf
              obtain ⟨r11, g10, h12, hf⟩ := hs_bd_some hf
              refine hs_calli (va_runV (As := [.ref (B + v1), .int r3]) (rest := []) ⟨hx, hb, hml, hown, hts⟩ (ctX6_act l B D E v0 v1 r3 g6 _ h12) (cwV 2 hts (hs_gV (fun _ h => List.mem_cons_of_mem _ h) wq790 wq791 wq792 wq34 wq793) rfl rfl rfl (by decide +kernel) ⟨Nat.le_of_ble_eq_true rfl, Nat.le_of_ble_eq_true rfl⟩) (hs_preV (r := (RX6, TX6, 8)) hP hK h9 (by decide) rfl) rfl rfl hl.1 rfl (lv_room (Nat.le_of_ble_eq_true rfl)) dX6_goOn_122 ⟨(Nat.le_of_ble_eq_true rfl), (Nat.le_of_ble_eq_true rfl)⟩) hS (fun H locs hP hS => ?_)
              refine lv_istore_n (lv' := [(3, .int r11), (2, .int r3), (0, .ref (B + v0)), (1, .ref (B + v1))]) hx hb dX6_goOn_125 rfl hl (by decide) rfl (fun ls hl => ?_)
              refine lv_iload_n hx hb dX6_goOn_126 rfl (lv_at hl 0 rfl) ?_
              refine lv_if_eq (tgt := 136) hx hb dX6_goOn_127 (by decide) (fun hc => ?_) (fun hc => ?_)
              · replace hf := hs_t hf hc
                refine lv_aload_n hx hb dX6_goOn_136 rfl (lv_at hl 3 rfl) ?_
                refine lv_dup hx hb dX6_goOn_137 rfl ?_
                obtain ⟨h13, hf⟩ := hs_ck hf
                refine hs_geti (C := RX3) (T := TX3) (N := 5) hx hb hts (fun w h => List.mem_cons_of_mem _ (inlX3 w h)) hown hK.1 hP h13 (by decide) rfl 4 (by decide) (hts _ (List.mem_cons_of_mem _ wq735)) (fun _ h => h) rfl dX6_goOn_138 ?_
                refine lv_iload_n hx hb dX6_goOn_141 rfl (lv_at hl 1 rfl) ?_
                obtain ⟨r15, g14, h16, hf⟩ := hs_bd_some hf
                refine hs_calli (va_runS (As := [.int r3]) (rest := [.int (hs_I g10 v1 4), .ref (B + v1)]) ⟨hx, hb, hml, hown, hts⟩ (ctX4_sizeOf l B D E r3 g10 _ h16) (va_cwS 1 hts (hs_gS (fun _ h => List.mem_cons_of_mem _ h) wq779 wq257 wq258 wq259) rfl rfl rfl (by decide +kernel) ⟨Nat.le_of_ble_eq_true rfl, Nat.le_of_ble_eq_true rfl⟩) (hs_pre hP hK) rfl rfl hl.1 rfl (lv_room (Nat.le_of_ble_eq_true rfl)) dX6_goOn_142 ⟨(Nat.le_of_ble_eq_true rfl), (Nat.le_of_ble_eq_true rfl)⟩) hS (fun H locs hP hS => ?_)
                refine lv_iadd hx hb dX6_goOn_145 ?_
                obtain ⟨h17, hf⟩ := hs_ck hf
                refine hs_puti (C := RX3) (T := TX3) (N := 5) hx hb hts (fun w h => List.mem_cons_of_mem _ (inlX3 w h)) tyX3 tyX3_ok nmX3 hown hK.1 hP hS h17 (by decide) rfl 4 (by decide) (hts _ (List.mem_cons_of_mem _ wq735)) (fun _ h => h) (Or.inl rfl) rfl rfl rfl dX6_goOn_146 (fun H locs hP hS => ?_)
                refine lv_iconst (v := 3) hx hb dX6_goOn_149 (by decide) ?_
                exact hs_iret hx hb hr hlocks rfl hK hP hS hf dX6_goOn_150
              · replace hf := hs_f hf hc
                refine lv_aload_n hx hb dX6_goOn_130 rfl (lv_at hl 2 rfl) ?_
                refine lv_iload_n hx hb dX6_goOn_131 rfl (lv_at hl 0 rfl) ?_
                obtain ⟨h18, hf⟩ := hs_ck hf
                obtain ⟨r20, g19, h21, hf⟩ := hs_bd_some hf
                refine hs_calli (va_runV (As := [.int r11]) (rest := []) ⟨hx, hb, hml, hown, hts⟩ (ctX6_raise l B D E v0 r11 g10 _ h21) (cwV 1 hts (hs_gV (fun _ h => List.mem_cons_of_mem _ h) wq836 wq837 wq838 wq34 wq839) rfl rfl rfl (by decide +kernel) ⟨Nat.le_of_ble_eq_true rfl, Nat.le_of_ble_eq_true rfl⟩) (hs_preV (r := (RX6, TX6, 8)) hP hK h18 (by decide) rfl) rfl rfl hl.1 rfl (lv_room (Nat.le_of_ble_eq_true rfl)) dX6_goOn_132 ⟨(Nat.le_of_ble_eq_true rfl), (Nat.le_of_ble_eq_true rfl)⟩) hS (fun H locs hP hS => ?_)
                exact hs_iret hx hb hr hlocks rfl hK hP hS hf dX6_goOn_135
            · replace hf := hs_f hf hc
              refine lv_aload_n hx hb dX6_goOn_112 rfl (lv_at hl 1 rfl) ?_
              refine lv_aload_n hx hb dX6_goOn_113 rfl (lv_at hl 2 rfl) ?_
              refine lv_iload_n hx hb dX6_goOn_114 rfl (lv_at hl 0 rfl) ?_
              obtain ⟨h22, hf⟩ := hs_ck hf
              obtain ⟨r24, g23, h25, hf⟩ := hs_bd_some hf
              refine hs_calli (va_runV (As := [.ref (B + v1), .int r3]) (rest := []) ⟨hx, hb, hml, hown, hts⟩ (ctX6_jump l B D E v0 v1 r3 g6 _ h25) (cwV 2 hts (hs_gV (fun _ h => List.mem_cons_of_mem _ h) wq781 wq782 wq783 wq34 wq784) rfl rfl rfl (by decide +kernel) ⟨Nat.le_of_ble_eq_true rfl, Nat.le_of_ble_eq_true rfl⟩) (hs_preV (r := (RX6, TX6, 8)) hP hK h22 (by decide) rfl) rfl rfl hl.1 rfl (lv_room (Nat.le_of_ble_eq_true rfl)) dX6_goOn_115 ⟨(Nat.le_of_ble_eq_true rfl), (Nat.le_of_ble_eq_true rfl)⟩) hS (fun H locs hP hS => ?_)
              exact hs_iret hx hb hr hlocks rfl hK hP hS hf dX6_goOn_118
          · replace hf := hs_t hf hc
            refine lv_aload_n hx hb dX6_goOn_96 rfl (lv_at hl 1 rfl) ?_
            refine lv_aload_n hx hb dX6_goOn_97 rfl (lv_at hl 2 rfl) ?_
            obtain ⟨h26, hf⟩ := hs_ck hf
            obtain ⟨r28, g27, h29, hf⟩ := hs_bd_some hf
            refine hs_calli (va_runV (As := []) (rest := [.ref (B + v0)]) ⟨hx, hb, hml, hown, hts⟩ (ctX3_pop l B D E v1 (hs_wI g2 v0 7 ((hs_I g2 v0 7) + (1 : Int32))) _ h29) (cwV 0 hts (hs_gV (fun _ h => List.mem_cons_of_mem _ h) wq767 wq768 wq769 wq101 wq770) rfl rfl rfl (by decide +kernel) ⟨Nat.le_of_ble_eq_true rfl, Nat.le_of_ble_eq_true rfl⟩) (hs_preV (r := (RX3, TX3, 5)) hP hK h26 (by decide) rfl) rfl rfl hl.1 rfl (lv_room (Nat.le_of_ble_eq_true rfl)) dX6_goOn_98 ⟨(Nat.le_of_ble_eq_true rfl), (Nat.le_of_ble_eq_true rfl)⟩) hS (fun H locs hP hS => ?_)
            obtain ⟨h30, hf⟩ := hs_ck hf
            obtain ⟨r32, g31, h33, hf⟩ := hs_bd_some hf
            refine hs_calli (va_runV (As := [.int r28]) (rest := []) ⟨hx, hb, hml, hown, hts⟩ (ctX6_leave l B D E v0 r28 g27 _ h33) (cwV 1 hts (hs_gV (fun _ h => List.mem_cons_of_mem _ h) wq771 wq772 wq773 wq34 wq774) rfl rfl rfl (by decide +kernel) ⟨Nat.le_of_ble_eq_true rfl, Nat.le_of_ble_eq_true rfl⟩) (hs_preV (r := (RX6, TX6, 8)) hP hK h30 (by decide) rfl) rfl rfl hl.1 rfl (lv_room (Nat.le_of_ble_eq_true rfl)) dX6_goOn_101 ⟨(Nat.le_of_ble_eq_true rfl), (Nat.le_of_ble_eq_true rfl)⟩) hS (fun H locs hP hS => ?_)
            exact hs_iret hx hb hr hlocks rfl hK hP hS hf dX6_goOn_104
        · replace hf := hs_t hf hc
          refine lv_aload_n hx hb dX6_goOn_83 rfl (lv_at hl 1 rfl) ?_
          refine lv_aload_n hx hb dX6_goOn_84 rfl (lv_at hl 2 rfl) ?_
          obtain ⟨r35, g34, h36, hf⟩ := hs_bd_some hf
          refine hs_calli (va_runV (As := [.ref (B + v1)]) (rest := []) ⟨hx, hb, hml, hown, hts⟩ (ctX6_call l B D E v0 v1 (hs_wI g2 v0 7 ((hs_I g2 v0 7) + (1 : Int32))) _ h36) (cwV 1 hts (hs_gV (fun _ h => List.mem_cons_of_mem _ h) wq759 wq760 wq761 wq34 wq762) rfl rfl rfl (by decide +kernel) ⟨Nat.le_of_ble_eq_true rfl, Nat.le_of_ble_eq_true rfl⟩) (hs_preV (r := (RX6, TX6, 8)) hP hK h5 (by decide) rfl) rfl rfl hl.1 rfl (lv_room (Nat.le_of_ble_eq_true rfl)) dX6_goOn_85 ⟨(Nat.le_of_ble_eq_true rfl), (Nat.le_of_ble_eq_true rfl)⟩) hS (fun H locs hP hS => ?_)
          exact hs_iret hx hb hr hlocks rfl hK hP hS hf dX6_goOn_88
      · replace hf := hs_f hf hc
        refine lv_iconst (v := 1) hx hb dX6_goOn_64 (by decide) ?_
        exact hs_iret hx hb hr hlocks rfl hK hP hS hf dX6_goOn_65
    · replace hf := hs_t hf hc
      refine lv_aload_n hx hb dX6_goOn_39 rfl (lv_at hl 1 rfl) ?_
      refine lv_aload_n hx hb dX6_goOn_40 rfl (lv_at hl 2 rfl) ?_
      refine lv_iconst (v := 0) hx hb dX6_goOn_41 (by decide) ?_
      refine lv_aload_n hx hb dX6_goOn_42 rfl (lv_at hl 2 rfl) ?_
      obtain ⟨h37, hf⟩ := hs_ck hf
      obtain ⟨r39, g38, h40, hf⟩ := hs_bd_some hf
      refine hs_calli (va_runV (As := []) (rest := [.int (0 : Int32), .ref (B + v1), .ref (B + v0)]) ⟨hx, hb, hml, hown, hts⟩ (ctX3_peek l B D E v1 g2 _ h40) (cwV 0 hts (hs_gV (fun _ h => List.mem_cons_of_mem _ h) wq754 wq755 wq756 wq101 wq757) rfl rfl rfl (by decide +kernel) ⟨Nat.le_of_ble_eq_true rfl, Nat.le_of_ble_eq_true rfl⟩) (hs_preV (r := (RX3, TX3, 5)) hP hK h37 (by decide) rfl) rfl rfl hl.1 rfl (lv_room (Nat.le_of_ble_eq_true rfl)) dX6_goOn_43 ⟨(Nat.le_of_ble_eq_true rfl), (Nat.le_of_ble_eq_true rfl)⟩) hS (fun H locs hP hS => ?_)
      refine va_mmax hx hb (hml.trans hl.1.symm) hown (hts _ (List.mem_cons_of_mem _ wq736)) (hts _ (List.mem_cons_of_mem _ wq382)) (hts _ (List.mem_cons_of_mem _ wq360)) (hts _ (List.mem_cons_of_mem _ wq383)) (Nat.le_of_ble_eq_true rfl) (Nat.le_of_ble_eq_true rfl) (Nat.le_of_ble_eq_true rfl) (Nat.le_of_ble_eq_true rfl) dX6_goOn_46 ?_
      refine lv_iconst (v := 1) hx hb dX6_goOn_49 (by decide) ?_
      obtain ⟨h41, hf⟩ := hs_ck hf
      obtain ⟨r43, g42, h44, hf⟩ := hs_bd_some hf
      refine hs_calli (va_runV (As := [.ref (B + v1), .int (if (0 : Int32) < r39 then r39 else (0 : Int32)), .int (1 : Int32)]) (rest := []) ⟨hx, hb, hml, hown, hts⟩ (ctX6_pay l B D E v0 v1 (if (0 : Int32) < r39 then r39 else (0 : Int32)) (1 : Int32) g38 _ h44) (cwV 3 hts (hs_gV (fun _ h => List.mem_cons_of_mem _ h) wq750 wq751 wq752 wq34 wq753) rfl rfl rfl (by decide +kernel) ⟨Nat.le_of_ble_eq_true rfl, Nat.le_of_ble_eq_true rfl⟩) (hs_preV (r := (RX6, TX6, 8)) hP hK h41 (by decide) rfl) rfl rfl hl.1 rfl (lv_room (Nat.le_of_ble_eq_true rfl)) dX6_goOn_50 ⟨(Nat.le_of_ble_eq_true rfl), (Nat.le_of_ble_eq_true rfl)⟩) hS (fun H locs hP hS => ?_)
      exact hs_iret hx hb hr hlocks rfl hK hP hS hf dX6_goOn_53
  · replace hf := hs_t hf hc
    refine lv_aload_n hx hb dX6_goOn_12 rfl (lv_at hl 1 rfl) ?_
    refine lv_aload_n hx hb dX6_goOn_13 rfl (lv_at hl 2 rfl) ?_
    refine lv_aload_n hx hb dX6_goOn_14 rfl (lv_at hl 2 rfl) ?_
    obtain ⟨h45, hf⟩ := hs_ck hf
    obtain ⟨h46, hf⟩ := hs_ck hf
    refine hs_getr (C := RX3) (T := TX3) (N := 5) hx hb hts (fun w h => List.mem_cons_of_mem _ (inlX3 w h)) hown hK.1 hP h45 (by decide) rfl 3 (by decide) (hts _ (List.mem_cons_of_mem _ wq699)) (fun _ h => h) rfl h46 dX6_goOn_15 ?_
    refine lv_aload_n hx hb dX6_goOn_18 rfl (lv_at hl 2 rfl) ?_
    refine hs_geti (C := RX3) (T := TX3) (N := 5) hx hb hts (fun w h => List.mem_cons_of_mem _ (inlX3 w h)) hown hK.1 hP h45 (by decide) rfl 4 (by decide) (hts _ (List.mem_cons_of_mem _ wq735)) (fun _ h => h) rfl dX6_goOn_19 ?_
    refine lv_iconst (v := 1) hx hb dX6_goOn_22 (by decide) ?_
    refine lv_iadd hx hb dX6_goOn_23 ?_
    obtain ⟨h47, hf⟩ := hs_ck hf
    obtain ⟨r49, g48, h50, hf⟩ := hs_bd_some hf
    refine hs_calli (va_runV (As := [.int ((hs_I g2 v1 4) + (1 : Int32))]) (rest := [.ref (B + v1), .ref (B + v0)]) ⟨hx, hb, hml, hown, hts⟩ (ctX7_fourAt l B D E ((hs_R g2 v1 3) - 1) ((hs_I g2 v1 4) + (1 : Int32)) g2 _ h50) (cwV 1 hts (hs_gV (fun _ h => List.mem_cons_of_mem _ h) wq742 wq743 wq744 wq43 wq745) rfl rfl rfl (by decide +kernel) ⟨Nat.le_of_ble_eq_true rfl, Nat.le_of_ble_eq_true rfl⟩) (hs_preV (r := (RX7, TX7, 11)) hP hK h47 (by decide) rfl) rfl rfl hl.1 rfl (lv_room (Nat.le_of_ble_eq_true rfl)) dX6_goOn_24 ⟨(Nat.le_of_ble_eq_true rfl), (Nat.le_of_ble_eq_true rfl)⟩) hS (fun H locs hP hS => ?_)
    refine lv_iconst (v := 5) hx hb dX6_goOn_27 (by decide) ?_
    obtain ⟨h51, hf⟩ := hs_ck hf
    obtain ⟨r53, g52, h54, hf⟩ := hs_bd_some hf
    refine hs_calli (va_runV (As := [.ref (B + v1), .int r49, .int (5 : Int32)]) (rest := []) ⟨hx, hb, hml, hown, hts⟩ (ctX6_pay l B D E v0 v1 r49 (5 : Int32) g48 _ h54) (cwV 3 hts (hs_gV (fun _ h => List.mem_cons_of_mem _ h) wq750 wq751 wq752 wq34 wq753) rfl rfl rfl (by decide +kernel) ⟨Nat.le_of_ble_eq_true rfl, Nat.le_of_ble_eq_true rfl⟩) (hs_preV (r := (RX6, TX6, 8)) hP hK h51 (by decide) rfl) rfl rfl hl.1 rfl (lv_room (Nat.le_of_ble_eq_true rfl)) dX6_goOn_28 ⟨(Nat.le_of_ble_eq_true rfl), (Nat.le_of_ble_eq_true rfl)⟩) hS (fun H locs hP hS => ?_)
    exact hs_iret hx hb hr hlocks rfl hK hP hS hf dX6_goOn_31

theorem dX6_perform_0 : decode cX6_perform 0 = .ok (.aload_n 0, 1) := by decide +kernel
theorem dX6_perform_1 : decode cX6_perform 1 = .ok (.invokevirtual 53, 3) := by decide +kernel
theorem dX6_perform_4 : decode cX6_perform 4 = .ok (.aload_n 0, 1) := by decide +kernel
theorem dX6_perform_5 : decode cX6_perform 5 = .ok (.iload 4, 2) := by decide +kernel
theorem dX6_perform_7 : decode cX6_perform 7 = .ok (.putfield 56, 3) := by decide +kernel
theorem dX6_perform_10 : decode cX6_perform 10 = .ok (.aload_n 0, 1) := by decide +kernel
theorem dX6_perform_11 : decode cX6_perform 11 = .ok (.iconst 0, 1) := by decide +kernel
theorem dX6_perform_12 : decode cX6_perform 12 = .ok (.invokevirtual 59, 3) := by decide +kernel
theorem dX6_perform_15 : decode cX6_perform 15 = .ok (.astore 5, 2) := by decide +kernel
theorem dX6_perform_17 : decode cX6_perform 17 = .ok (.aload 5, 2) := by decide +kernel
theorem dX6_perform_19 : decode cX6_perform 19 = .ok (.aload_n 0, 1) := by decide +kernel
theorem dX6_perform_20 : decode cX6_perform 20 = .ok (.getfield 24, 3) := by decide +kernel
theorem dX6_perform_23 : decode cX6_perform 23 = .ok (.iload_n 1, 1) := by decide +kernel
theorem dX6_perform_24 : decode cX6_perform 24 = .ok (.invokevirtual 28, 3) := by decide +kernel
theorem dX6_perform_27 : decode cX6_perform 27 = .ok (.invokevirtual 63, 3) := by decide +kernel
theorem dX6_perform_30 : decode cX6_perform 30 = .ok (.aload 5, 2) := by decide +kernel
theorem dX6_perform_32 : decode cX6_perform 32 = .ok (.getfield 66, 3) := by decide +kernel
theorem dX6_perform_35 : decode cX6_perform 35 = .ok (.getfield 69, 3) := by decide +kernel
theorem dX6_perform_38 : decode cX6_perform 38 = .ok (.ifCond .le 10, 3) := by decide +kernel
theorem dX6_perform_41 : decode cX6_perform 41 = .ok (.aload 5, 2) := by decide +kernel
theorem dX6_perform_43 : decode cX6_perform 43 = .ok (.iconst 0, 1) := by decide +kernel
theorem dX6_perform_44 : decode cX6_perform 44 = .ok (.iload_n 2, 1) := by decide +kernel
theorem dX6_perform_45 : decode cX6_perform 45 = .ok (.invokevirtual 74, 3) := by decide +kernel
theorem dX6_perform_48 : decode cX6_perform 48 = .ok (.aload 5, 2) := by decide +kernel
theorem dX6_perform_50 : decode cX6_perform 50 = .ok (.getfield 66, 3) := by decide +kernel
theorem dX6_perform_53 : decode cX6_perform 53 = .ok (.getfield 69, 3) := by decide +kernel
theorem dX6_perform_56 : decode cX6_perform 56 = .ok (.iconst 1, 1) := by decide +kernel
theorem dX6_perform_57 : decode cX6_perform 57 = .ok (.if_icmp .le 10, 3) := by decide +kernel
theorem dX6_perform_60 : decode cX6_perform 60 = .ok (.aload 5, 2) := by decide +kernel
theorem dX6_perform_62 : decode cX6_perform 62 = .ok (.iconst 1, 1) := by decide +kernel
theorem dX6_perform_63 : decode cX6_perform 63 = .ok (.iload_n 3, 1) := by decide +kernel
theorem dX6_perform_64 : decode cX6_perform 64 = .ok (.invokevirtual 74, 3) := by decide +kernel
theorem dX6_perform_67 : decode cX6_perform 67 = .ok (.aload_n 0, 1) := by decide +kernel
theorem dX6_perform_68 : decode cX6_perform 68 = .ok (.iconst 1, 1) := by decide +kernel
theorem dX6_perform_69 : decode cX6_perform 69 = .ok (.putfield 40, 3) := by decide +kernel
theorem dX6_perform_72 : decode cX6_perform 72 = .ok (.iconst 0, 1) := by decide +kernel
theorem dX6_perform_73 : decode cX6_perform 73 = .ok (.istore 6, 2) := by decide +kernel
theorem dX6_perform_75 : decode cX6_perform 75 = .ok (.iload 6, 2) := by decide +kernel
theorem dX6_perform_77 : decode cX6_perform 77 = .ok (.ldc 78, 2) := by decide +kernel
theorem dX6_perform_79 : decode cX6_perform 79 = .ok (.if_icmp .ge 34, 3) := by decide +kernel
theorem dX6_perform_82 : decode cX6_perform 82 = .ok (.aload_n 0, 1) := by decide +kernel
theorem dX6_perform_83 : decode cX6_perform 83 = .ok (.aload_n 0, 1) := by decide +kernel
theorem dX6_perform_84 : decode cX6_perform 84 = .ok (.aload_n 0, 1) := by decide +kernel
theorem dX6_perform_85 : decode cX6_perform 85 = .ok (.getfield 40, 3) := by decide +kernel
theorem dX6_perform_88 : decode cX6_perform 88 = .ok (.iconst 1, 1) := by decide +kernel
theorem dX6_perform_89 : decode cX6_perform 89 = .ok (.isub, 1) := by decide +kernel
theorem dX6_perform_90 : decode cX6_perform 90 = .ok (.invokevirtual 59, 3) := by decide +kernel
theorem dX6_perform_93 : decode cX6_perform 93 = .ok (.invokevirtual 79, 3) := by decide +kernel
theorem dX6_perform_96 : decode cX6_perform 96 = .ok (.istore 7, 2) := by decide +kernel
theorem dX6_perform_98 : decode cX6_perform 98 = .ok (.iload 7, 2) := by decide +kernel
theorem dX6_perform_100 : decode cX6_perform 100 = .ok (.iconst 3, 1) := by decide +kernel
theorem dX6_perform_101 : decode cX6_perform 101 = .ok (.if_icmp .eq 6, 3) := by decide +kernel
theorem dX6_perform_104 : decode cX6_perform 104 = .ok (.iload 7, 2) := by decide +kernel
theorem dX6_perform_106 : decode cX6_perform 106 = .ok (.ireturn, 1) := by decide +kernel
theorem dX6_perform_107 : decode cX6_perform 107 = .ok (.iinc 6 1, 3) := by decide +kernel
theorem dX6_perform_110 : decode cX6_perform 110 = .ok (.goto (-35), 3) := by decide +kernel
theorem dX6_perform_113 : decode cX6_perform 113 = .ok (.iconst 1, 1) := by decide +kernel
theorem dX6_perform_114 : decode cX6_perform 114 = .ok (.ireturn, 1) := by decide +kernel
abbrev wcX6_perform : List Cond := .code yX6_perform cX6_perform 8 (some .int) :: wsL_law
def lX6_perform_75 : Nat → Nat → Int32 → hs_S → Option (Nat × Int32 × hs_S)
  | 0, _, _, _ => none
  | n + 1, v0, v6, g =>
    if (1000000 : Int32) ≤ v6 then (
      some (0, 0, g)
    ) else (
      if hs_kd g v0 = 5 then
      hs_bd (fX6_frame v0 ((hs_I g v0 3) - (1 : Int32)) g) fun r28 g27 =>
      if hs_kd g27 v0 = 5 then
      hs_bd (fX6_goOn v0 r28 g27) fun r32 g31 =>
      if r32 = (3 : Int32) then (
        lX6_perform_75 n v0 (v6 + (1 : Int32)) g31
      ) else (
        some (1, r32, g31)
      )
      else none else none
    )
theorem lX6_perform_75_s (n : Nat) (v0 : Nat) (v6 : Int32) (g : hs_S) : lX6_perform_75 (n + 1) v0 v6 g =
    if (1000000 : Int32) ≤ v6 then (
      some (0, 0, g)
    ) else (
      if hs_kd g v0 = 5 then
      hs_bd (fX6_frame v0 ((hs_I g v0 3) - (1 : Int32)) g) fun r28 g27 =>
      if hs_kd g27 v0 = 5 then
      hs_bd (fX6_goOn v0 r28 g27) fun r32 g31 =>
      if r32 = (3 : Int32) then (
        lX6_perform_75 n v0 (v6 + (1 : Int32)) g31
      ) else (
        some (1, r32, g31)
      )
      else none else none
    ) := rfl
def jX6_perform_67 (v0 : Nat) (g : hs_S) : Option (Int32 × hs_S) :=
  if hs_kd g v0 = 5 then
  hs_b3 (lX6_perform_75 hs_N v0 (0 : Int32) (hs_wI g v0 3 (1 : Int32))) fun k35 x34 g36 =>
  if k35 = 0 then (
    some ((1 : Int32), g36)
  ) else (
    some (x34, g36)
  )
  else none
def jX6_perform_48 (v0 : Nat) (v3 : Int32) (v5 : Nat) (g : hs_S) : Option (Int32 × hs_S) :=
  if hs_kd g v5 = 3 then
  if ¬ (hs_R g v5 3) = 0 then
  if hs_kd g ((hs_R g v5 3) - 1) = 6 then
  if (hs_I g ((hs_R g v5 3) - 1) 4) ≤ (1 : Int32) then (
    jX6_perform_67 v0 g
  ) else (
    hs_bv (fX3_setLocal v5 (1 : Int32) v3 g) fun g38 =>
    jX6_perform_67 v0 g38
  )
  else none else none else none
def fX6_perform (v0 : Nat) (v1 : Int32) (v2 : Int32) (v3 : Int32) (v4 : Int32) (g : hs_S) : Option (Int32 × hs_S) :=
  if hs_kd g v0 = 5 then
  hs_bv (fX6_forget v0 g) fun g2 =>
  if hs_kd g2 v0 = 5 then
  hs_bd (fX6_frame v0 (0 : Int32) (hs_wI g2 v0 4 v4)) fun r7 g6 =>
  if hs_kd g6 v0 = 5 then
  if ¬ (hs_R g6 v0 0) = 0 then
  if hs_kd g6 ((hs_R g6 v0 0) - 1) = 0 then
  hs_bd (fX0_method ((hs_R g6 v0 0) - 1) v1 g6) fun r13 g12 =>
  if hs_kd g12 r7 = 3 then
  hs_bv (fX3_begin r7 r13 g12) fun g16 =>
  if hs_kd g16 r7 = 3 then
  if ¬ (hs_R g16 r7 3) = 0 then
  if hs_kd g16 ((hs_R g16 r7 3) - 1) = 6 then
  if (hs_I g16 ((hs_R g16 r7 3) - 1) 4) ≤ 0 then (
    jX6_perform_48 v0 v3 r7 g16
  ) else (
    hs_bv (fX3_setLocal r7 (0 : Int32) v2 g16) fun g41 =>
    jX6_perform_48 v0 v3 r7 g41
  )
  else none else none else none else none else none else none else none else none else none
abbrev rmX6_perform : Room := { frames := 6, cells := 0, slots := 0, locals := 138 }
set_option maxHeartbeats 4000000 in
set_option maxRecDepth 100000 in
theorem wX6_perform_75 {p : Program} {l : Launch} {e : Env} {s : State} {m : MethodId} {args : Array Value} {below : List Frame} {meth : Method} {c : Code} {B : Nat} {D : va_G} {E : Nat → ClassId} (hX : hs_cx cX6_perform (some .int) 8 RX6 wcX6_perform p s m args meth c D E) {Q : State → Prop} {o : Nat × Int32 × hs_S} {v0 : Nat} (hex0 : o.1 = 0 → ∀ (H : Heap) (locs : List Loc) (ls : Array Slot), hs_P B D E (o.2.2) H → hs_Sx B s.heap H locs → lv_has ls 8 [] → W p l e rmX6_perform s m args below meth c H locs 0 0 Q (F0 m 113 ls [])) (hex1 : o.1 = 1 → ∀ (H : Heap) (locs : List Loc) (ls : Array Slot), hs_P B D E (o.2.2) H → hs_Sx B s.heap H locs → lv_has ls 8 [(7, .int (o.2.1))] → W p l e rmX6_perform s m args below meth c H locs 0 0 Q (F0 m 104 ls [])) : ∀ (n : Nat) (v6 : Int32) (g : hs_S), lX6_perform_75 n v0 v6 g = some o → ∀ (H : Heap) (locs : List Loc) (ls : Array Slot), hs_P B D E g H → hs_Sx B s.heap H locs → lv_has ls 8 [(0, .ref (B + v0)), (6, .int v6)] → W p l e rmX6_perform s m args below meth c H locs 0 0 Q (F0 m 75 ls []) := by
  obtain ⟨hx, hb, hr, hml, hown, hts, hlocks, hK⟩ := id hX
  intro n
  induction n with
  | zero =>
    intro v6 g hf
    cases hf
  | succ n ih =>
    intro v6 g hf H locs ls hP hS hl
    replace hf := (lX6_perform_75_s n v0 v6 g).symm.trans hf
    refine lv_iload hx hb dX6_perform_75 (lv_at hl 1 rfl) ?_
    refine lv_ldc (v := 1000000) hx hb hown (hts _ (List.mem_cons_of_mem _ wq702)) dX6_perform_77 ?_
    refine lv_icmp_ge (tgt := 113) hx hb dX6_perform_79 (by decide) (fun hc => ?_) (fun hc => ?_)
    · replace hf := hs_t hf hc
      obtain rfl := Option.some.inj hf
      exact hex0 rfl _ _ _ hP hS (lv_sub hl [] rfl)
    · replace hf := hs_f hf hc
      refine lv_aload_n hx hb dX6_perform_82 rfl (lv_at hl 0 rfl) ?_
      refine lv_aload_n hx hb dX6_perform_83 rfl (lv_at hl 0 rfl) ?_
      refine lv_aload_n hx hb dX6_perform_84 rfl (lv_at hl 0 rfl) ?_
      obtain ⟨h26, hf⟩ := hs_ck hf
      refine hs_geti (C := RX6) (T := TX6) (N := 8) hx hb hts (fun w h => List.mem_cons_of_mem _ (inlX6 w h)) hown hK.1 hP h26 (by decide) rfl 3 (by decide) (hts _ (List.mem_cons_of_mem _ wq701)) (fun _ h => h) rfl dX6_perform_85 ?_
      refine lv_iconst (v := 1) hx hb dX6_perform_88 (by decide) ?_
      refine lv_isub hx hb dX6_perform_89 ?_
      obtain ⟨r28, g27, h29, hf⟩ := hs_bd_some hf
      refine hs_callr (va_runV (As := [.int ((hs_I g v0 3) - (1 : Int32))]) (rest := [.ref (B + v0)]) ⟨hx, hb, hml, hown, hts⟩ (ctX6_frame l B D E v0 ((hs_I g v0 3) - (1 : Int32)) g _ h29) (cwV 1 hts (hs_gV (fun _ h => List.mem_cons_of_mem _ h) wq715 wq716 wq717 wq34 wq718) rfl rfl rfl (by decide +kernel) ⟨Nat.le_of_ble_eq_true rfl, Nat.le_of_ble_eq_true rfl⟩) (hs_preV (r := (RX6, TX6, 8)) hP hK h26 (by decide) rfl) rfl rfl hl.1 rfl (lv_room (Nat.le_of_ble_eq_true rfl)) dX6_perform_90 ⟨(Nat.le_of_ble_eq_true rfl), (Nat.le_of_ble_eq_true rfl)⟩) hS (fun H locs hP hS => ?_)
      obtain ⟨h30, hf⟩ := hs_ck hf
      obtain ⟨r32, g31, h33, hf⟩ := hs_bd_some hf
      refine hs_calli (va_runV (As := [.ref (B + r28)]) (rest := []) ⟨hx, hb, hml, hown, hts⟩ (ctX6_goOn l B D E v0 r28 g27 _ h33) (cwV 1 hts (hs_gV (fun _ h => List.mem_cons_of_mem _ h) wq731 wq732 wq733 wq34 wq734) rfl rfl rfl (by decide +kernel) ⟨Nat.le_of_ble_eq_true rfl, Nat.le_of_ble_eq_true rfl⟩) (hs_preV (r := (RX6, TX6, 8)) hP hK h30 (by decide) rfl) rfl rfl hl.1 rfl (lv_room (Nat.le_of_ble_eq_true rfl)) dX6_perform_93 ⟨(Nat.le_of_ble_eq_true rfl), (Nat.le_of_ble_eq_true rfl)⟩) hS (fun H locs hP hS => ?_)
      refine lv_istore (lv' := [(7, .int r32), (0, .ref (B + v0)), (6, .int v6)]) hx hb dX6_perform_96 hl (by decide) rfl (fun ls hl => ?_)
      refine lv_iload hx hb dX6_perform_98 (lv_at hl 0 rfl) ?_
      refine lv_iconst (v := 3) hx hb dX6_perform_100 (by decide) ?_
      refine lv_icmp_eq (tgt := 107) hx hb dX6_perform_101 (by decide) (fun hc => ?_) (fun hc => ?_)
      · replace hf := hs_t hf hc
        refine lv_iinc (v := (v6 + (1 : Int32))) (lv' := [(6, .int (v6 + (1 : Int32))), (7, .int r32), (0, .ref (B + v0))]) hx hb dX6_perform_107 hl (k := 2) rfl (by rfl) (by decide) rfl (fun ls hl => ?_)
        refine lv_goto (tgt := 75) hx hb dX6_perform_110 (by decide) ?_
        exact ih _ _ hf _ _ _ hP hS (lv_sub hl [2, 0] rfl)
      · replace hf := hs_f hf hc
        obtain rfl := Option.some.inj hf
        exact hex1 rfl _ _ _ hP hS (lv_sub hl [0] rfl)

set_option maxHeartbeats 4000000 in
set_option maxRecDepth 100000 in
theorem wX6_perform_j67 {p : Program} {l : Launch} {e : Env} {s : State} {m : MethodId} {args : Array Value} {below : List Frame} {meth : Method} {c : Code} {B : Nat} {D : va_G} {E : Nat → ClassId} (hX : hs_cx cX6_perform (some .int) 8 RX6 wcX6_perform p s m args meth c D E) {o : Int32 × hs_S}  {v0 : Nat}   {g : hs_S} {H : Heap} {locs : List Loc} {ls : Array Slot} (hf : jX6_perform_67 v0 g = some o) (hP : hs_P B D E g H) (hS : hs_Sx B s.heap H locs) (hl : lv_has ls 8 [(0, .ref (B + v0))]) : W p l e rmX6_perform s m args below meth c H locs 0 0 (MQ below (hs_Qi B D E o) args s 0 0 (hs_F B)) (F0 m 67 ls []) := by
  obtain ⟨hx, hb, hr, hml, hown, hts, hlocks, hK⟩ := id hX
  unfold jX6_perform_67 at hf
  refine lv_aload_n hx hb dX6_perform_67 rfl (lv_at hl 0 rfl) ?_
  refine lv_iconst (v := 1) hx hb dX6_perform_68 (by decide) ?_
  obtain ⟨h25, hf⟩ := hs_ck hf
  refine hs_puti (C := RX6) (T := TX6) (N := 8) hx hb hts (fun w h => List.mem_cons_of_mem _ (inlX6 w h)) tyX6 tyX6_ok nmX6 hown hK.1 hP hS h25 (by decide) rfl 3 (by decide) (hts _ (List.mem_cons_of_mem _ wq701)) (fun _ h => h) (Or.inl rfl) rfl rfl rfl dX6_perform_69 (fun H locs hP hS => ?_)
  refine lv_iconst (v := 0) hx hb dX6_perform_72 (by decide) ?_
  refine lv_istore (lv' := [(6, .int (0 : Int32)), (0, .ref (B + v0))]) hx hb dX6_perform_73 hl (by decide) rfl (fun ls hl => ?_)
  obtain ⟨k35, x34, g36, h37, hf⟩ := hs_b3_some hf
  refine wX6_perform_75 hX (fun hlab H locs ls hP hS hl => ?_) (fun hlab H locs ls hP hS hl => ?_) hs_N _ _ h37 _ _ _ hP hS (lv_sub hl [1, 0] rfl)
  · replace hlab : k35 = 0 := hlab
    replace hf := hs_t hf hlab
    refine lv_iconst (v := 1) hx hb dX6_perform_113 (by decide) ?_
    exact hs_iret hx hb hr hlocks rfl hK hP hS hf dX6_perform_114
  · replace hlab : k35 = 1 := hlab
    replace hf := hs_f hf (by rw [hlab]; decide)
    refine lv_iload hx hb dX6_perform_104 (lv_at hl 0 rfl) ?_
    exact hs_iret hx hb hr hlocks rfl hK hP hS hf dX6_perform_106

set_option maxHeartbeats 4000000 in
set_option maxRecDepth 100000 in
theorem wX6_perform_j48 {p : Program} {l : Launch} {e : Env} {s : State} {m : MethodId} {args : Array Value} {below : List Frame} {meth : Method} {c : Code} {B : Nat} {D : va_G} {E : Nat → ClassId} (hX : hs_cx cX6_perform (some .int) 8 RX6 wcX6_perform p s m args meth c D E) {o : Int32 × hs_S}  {v0 : Nat} {v3 : Int32} {v5 : Nat}   {g : hs_S} {H : Heap} {locs : List Loc} {ls : Array Slot} (hf : jX6_perform_48 v0 v3 v5 g = some o) (hP : hs_P B D E g H) (hS : hs_Sx B s.heap H locs) (hl : lv_has ls 8 [(0, .ref (B + v0)), (3, .int v3), (5, .ref (B + v5))]) : W p l e rmX6_perform s m args below meth c H locs 0 0 (MQ below (hs_Qi B D E o) args s 0 0 (hs_F B)) (F0 m 48 ls []) := by
  obtain ⟨hx, hb, hr, hml, hown, hts, hlocks, hK⟩ := id hX
  unfold jX6_perform_48 at hf
  refine lv_aload hx hb dX6_perform_48 (lv_at hl 2 rfl) ?_
  obtain ⟨h22, hf⟩ := hs_ck hf
  obtain ⟨h23, hf⟩ := hs_ck hf
  refine hs_getr (C := RX3) (T := TX3) (N := 5) hx hb hts (fun w h => List.mem_cons_of_mem _ (inlX3 w h)) hown hK.1 hP h22 (by decide) rfl 3 (by decide) (hts _ (List.mem_cons_of_mem _ wq699)) (fun _ h => h) rfl h23 dX6_perform_50 ?_
  obtain ⟨h24, hf⟩ := hs_ck hf
  refine hs_geti (C := RX7) (T := TX7) (N := 11) hx hb hts (fun w h => List.mem_cons_of_mem _ (inlX7 w h)) hown hK.1 hP h24 (by decide) rfl 4 (by decide) (hts _ (List.mem_cons_of_mem _ wq700)) (fun _ h => h) rfl dX6_perform_53 ?_
  refine lv_iconst (v := 1) hx hb dX6_perform_56 (by decide) ?_
  refine lv_icmp_le (tgt := 67) hx hb dX6_perform_57 (by decide) (fun hc => ?_) (fun hc => ?_)
  · replace hf := hs_t hf hc
    exact wX6_perform_j67 hX hf hP hS (lv_sub hl [0] rfl)
  · replace hf := hs_f hf hc
    refine lv_aload hx hb dX6_perform_60 (lv_at hl 2 rfl) ?_
    refine lv_iconst (v := 1) hx hb dX6_perform_62 (by decide) ?_
    refine lv_iload_n hx hb dX6_perform_63 rfl (lv_at hl 1 rfl) ?_
    obtain ⟨g38, h40, hf⟩ := hs_bv_some hf
    refine hs_callv (va_runV (As := [.int (1 : Int32), .int v3]) (rest := []) ⟨hx, hb, hml, hown, hts⟩ (ctX3_setLocal l B D E v5 (1 : Int32) v3 g _ h40) (cwV 2 hts (hs_gV (fun _ h => List.mem_cons_of_mem _ h) wq726 wq727 wq728 wq101 wq729) rfl rfl rfl (by decide +kernel) ⟨Nat.le_of_ble_eq_true rfl, Nat.le_of_ble_eq_true rfl⟩) (hs_preV (r := (RX3, TX3, 5)) hP hK h22 (by decide) rfl) rfl rfl hl.1 rfl (lv_room (Nat.le_of_ble_eq_true rfl)) dX6_perform_64 ⟨(Nat.le_of_ble_eq_true rfl), (Nat.le_of_ble_eq_true rfl)⟩) hS (fun H locs hP hS => ?_)
    exact wX6_perform_j67 hX hf hP hS (lv_sub hl [0] rfl)

set_option maxHeartbeats 4000000 in
set_option maxRecDepth 100000 in
theorem ctX6_perform (l : Launch) (B : Nat) (D : va_G) (E : Nat → ClassId) (v0 : Nat) (v1 : Int32) (v2 : Int32) (v3 : Int32) (v4 : Int32) (g : hs_S) (o : Int32 × hs_S) (hf : fX6_perform v0 v1 v2 v3 v4 g = some o) : Met l yX6_perform wcX6_perform rmX6_perform (hs_Pc B D E g [.ref (B + v0), .int v1, .int v2, .int v3, .int v4]) (hs_Qi B D E o) (0) (0) (hs_F B) := by
  refine Met.ofW (cc := cX6_perform) (maxL := 8) (ret := (some .int)) (by decide) rfl ?_
  intro p e s m args below meth c s₁ Bd hml hv
  obtain ⟨rfl, hP, hK⟩ := hv
  have hx := Bd.exec
  have hb := Bd.bytes
  have hr := Bd.returns
  have hts := atoms_spec (ws := wcX6_perform) Bd.pre
  have hown : s.vm.findClass RX6 = some m.cls := findClass_of_methodNamed Bd.named
  have hlocks := Bd.notSynchronized
  have hS : hs_Sx B s.heap s.heap [] := va_S.rf
  have hX : hs_cx cX6_perform (some .int) 8 RX6 wcX6_perform p s m (List.toArray [.ref (B + v0), .int v1, .int v2, .int v3, .int v4]) meth c D E := ⟨hx, hb, hr, hml, hown, hts, hlocks, hK⟩
  have hl := lv_entry ([.ref (B + v0), .int v1, .int v2, .int v3, .int v4]) (n := 8) (Nat.le_of_ble_eq_true rfl)
  rw [lg_entry_eq]
  generalize (lg_sl ([.ref (B + v0), .int v1, .int v2, .int v3, .int v4]) ++ List.replicate (8 - (lg_sl ([.ref (B + v0), .int v1, .int v2, .int v3, .int v4])).length) Slot.unset).toArray = ls at hl ⊢
  have hl : lv_has ls 8 [(0, .ref (B + v0)), (1, .int v1), (2, .int v2), (3, .int v3), (4, .int v4)] := hl
  have hP : hs_P B D E g s.heap := hP
  unfold fX6_perform at hf
  refine lv_aload_n hx hb dX6_perform_0 rfl (lv_at hl 0 rfl) ?_
  obtain ⟨h1, hf⟩ := hs_ck hf
  obtain ⟨g2, h4, hf⟩ := hs_bv_some hf
  refine hs_callv (va_runV (As := []) (rest := []) ⟨hx, hb, hml, hown, hts⟩ (ctX6_forget l B D E v0 g _ h4) (cwV 0 hts (hs_gV (fun _ h => List.mem_cons_of_mem _ h) wq703 wq704 wq705 wq34 wq706) rfl rfl rfl (by decide +kernel) ⟨Nat.le_of_ble_eq_true rfl, Nat.le_of_ble_eq_true rfl⟩) (hs_preV (r := (RX6, TX6, 8)) hP hK h1 (by decide) rfl) rfl rfl hl.1 rfl (lv_room (Nat.le_of_ble_eq_true rfl)) dX6_perform_1 ⟨(Nat.le_of_ble_eq_true rfl), (Nat.le_of_ble_eq_true rfl)⟩) hS (fun H locs hP hS => ?_)
  refine lv_aload_n hx hb dX6_perform_4 rfl (lv_at hl 0 rfl) ?_
  refine lv_iload hx hb dX6_perform_5 (lv_at hl 4 rfl) ?_
  obtain ⟨h5, hf⟩ := hs_ck hf
  refine hs_puti (C := RX6) (T := TX6) (N := 8) hx hb hts (fun w h => List.mem_cons_of_mem _ (inlX6 w h)) tyX6 tyX6_ok nmX6 hown hK.1 hP hS h5 (by decide) rfl 4 (by decide) (hts _ (List.mem_cons_of_mem _ wq698)) (fun _ h => h) (Or.inl rfl) rfl rfl rfl dX6_perform_7 (fun H locs hP hS => ?_)
  refine lv_aload_n hx hb dX6_perform_10 rfl (lv_at hl 0 rfl) ?_
  refine lv_iconst (v := 0) hx hb dX6_perform_11 (by decide) ?_
  obtain ⟨r7, g6, h8, hf⟩ := hs_bd_some hf
  refine hs_callr (va_runV (As := [.int (0 : Int32)]) (rest := []) ⟨hx, hb, hml, hown, hts⟩ (ctX6_frame l B D E v0 (0 : Int32) (hs_wI g2 v0 4 v4) _ h8) (cwV 1 hts (hs_gV (fun _ h => List.mem_cons_of_mem _ h) wq715 wq716 wq717 wq34 wq718) rfl rfl rfl (by decide +kernel) ⟨Nat.le_of_ble_eq_true rfl, Nat.le_of_ble_eq_true rfl⟩) (hs_preV (r := (RX6, TX6, 8)) hP hK h5 (by decide) rfl) rfl rfl hl.1 rfl (lv_room (Nat.le_of_ble_eq_true rfl)) dX6_perform_12 ⟨(Nat.le_of_ble_eq_true rfl), (Nat.le_of_ble_eq_true rfl)⟩) hS (fun H locs hP hS => ?_)
  refine lv_astore (lv' := [(5, .ref (B + r7)), (0, .ref (B + v0)), (1, .int v1), (2, .int v2), (3, .int v3), (4, .int v4)]) hx hb dX6_perform_15 hl (by decide) rfl (fun ls hl => ?_)
  refine lv_aload hx hb dX6_perform_17 (lv_at hl 0 rfl) ?_
  refine lv_aload_n hx hb dX6_perform_19 rfl (lv_at hl 1 rfl) ?_
  obtain ⟨h9, hf⟩ := hs_ck hf
  obtain ⟨h10, hf⟩ := hs_ck hf
  refine hs_getr (C := RX6) (T := TX6) (N := 8) hx hb hts (fun w h => List.mem_cons_of_mem _ (inlX6 w h)) hown hK.1 hP h9 (by decide) rfl 0 (by decide) (hts _ (List.mem_cons_of_mem _ wq99)) (fun _ h => h) rfl h10 dX6_perform_20 ?_
  refine lv_iload_n hx hb dX6_perform_23 rfl (lv_at hl 2 rfl) ?_
  obtain ⟨h11, hf⟩ := hs_ck hf
  obtain ⟨r13, g12, h14, hf⟩ := hs_bd_some hf
  refine hs_callr (va_runV (As := [.int v1]) (rest := [.ref (B + r7)]) ⟨hx, hb, hml, hown, hts⟩ (ctX0_method l B D E ((hs_R g6 v0 0) - 1) v1 g6 _ h14) (cwV 1 hts (hs_gV (fun _ h => List.mem_cons_of_mem _ h) wq107 wq108 wq109 wq15 wq110) rfl rfl rfl (by decide +kernel) ⟨Nat.le_of_ble_eq_true rfl, Nat.le_of_ble_eq_true rfl⟩) (hs_preV (r := (RX0, TX0, 5)) hP hK h11 (by decide) rfl) rfl rfl hl.1 rfl (lv_room (Nat.le_of_ble_eq_true rfl)) dX6_perform_24 ⟨(Nat.le_of_ble_eq_true rfl), (Nat.le_of_ble_eq_true rfl)⟩) hS (fun H locs hP hS => ?_)
  obtain ⟨h15, hf⟩ := hs_ck hf
  obtain ⟨g16, h18, hf⟩ := hs_bv_some hf
  refine hs_callv (va_runV (As := [.ref (B + r13)]) (rest := []) ⟨hx, hb, hml, hown, hts⟩ (ctX3_begin l B D E r7 r13 g12 _ h18) (cwV 1 hts (hs_gV (fun _ h => List.mem_cons_of_mem _ h) wq719 wq720 wq721 wq101 wq722) rfl rfl rfl (by decide +kernel) ⟨Nat.le_of_ble_eq_true rfl, Nat.le_of_ble_eq_true rfl⟩) (hs_preV (r := (RX3, TX3, 5)) hP hK h15 (by decide) rfl) rfl rfl hl.1 rfl (lv_room (Nat.le_of_ble_eq_true rfl)) dX6_perform_27 ⟨(Nat.le_of_ble_eq_true rfl), (Nat.le_of_ble_eq_true rfl)⟩) hS (fun H locs hP hS => ?_)
  refine lv_aload hx hb dX6_perform_30 (lv_at hl 0 rfl) ?_
  obtain ⟨h19, hf⟩ := hs_ck hf
  obtain ⟨h20, hf⟩ := hs_ck hf
  refine hs_getr (C := RX3) (T := TX3) (N := 5) hx hb hts (fun w h => List.mem_cons_of_mem _ (inlX3 w h)) hown hK.1 hP h19 (by decide) rfl 3 (by decide) (hts _ (List.mem_cons_of_mem _ wq699)) (fun _ h => h) rfl h20 dX6_perform_32 ?_
  obtain ⟨h21, hf⟩ := hs_ck hf
  refine hs_geti (C := RX7) (T := TX7) (N := 11) hx hb hts (fun w h => List.mem_cons_of_mem _ (inlX7 w h)) hown hK.1 hP h21 (by decide) rfl 4 (by decide) (hts _ (List.mem_cons_of_mem _ wq700)) (fun _ h => h) rfl dX6_perform_35 ?_
  refine lv_if_le (tgt := 48) hx hb dX6_perform_38 (by decide) (fun hc => ?_) (fun hc => ?_)
  · replace hf := hs_t hf hc
    exact wX6_perform_j48 hX hf hP hS (lv_sub hl [1, 4, 0] rfl)
  · replace hf := hs_f hf hc
    refine lv_aload hx hb dX6_perform_41 (lv_at hl 0 rfl) ?_
    refine lv_iconst (v := 0) hx hb dX6_perform_43 (by decide) ?_
    refine lv_iload_n hx hb dX6_perform_44 rfl (lv_at hl 3 rfl) ?_
    obtain ⟨g41, h43, hf⟩ := hs_bv_some hf
    refine hs_callv (va_runV (As := [.int (0 : Int32), .int v2]) (rest := []) ⟨hx, hb, hml, hown, hts⟩ (ctX3_setLocal l B D E r7 (0 : Int32) v2 g16 _ h43) (cwV 2 hts (hs_gV (fun _ h => List.mem_cons_of_mem _ h) wq726 wq727 wq728 wq101 wq729) rfl rfl rfl (by decide +kernel) ⟨Nat.le_of_ble_eq_true rfl, Nat.le_of_ble_eq_true rfl⟩) (hs_preV (r := (RX3, TX3, 5)) hP hK h19 (by decide) rfl) rfl rfl hl.1 rfl (lv_room (Nat.le_of_ble_eq_true rfl)) dX6_perform_45 ⟨(Nat.le_of_ble_eq_true rfl), (Nat.le_of_ble_eq_true rfl)⟩) hS (fun H locs hP hS => ?_)
    exact wX6_perform_j48 hX hf hP hS (lv_sub hl [1, 4, 0] rfl)

theorem dX11_run_0 : decode cX11_run 0 = .ok (.aload_n 0, 1) := by decide +kernel
theorem dX11_run_1 : decode cX11_run 1 = .ok (.getfield 24, 3) := by decide +kernel
theorem dX11_run_4 : decode cX11_run 4 = .ok (.getfield 71, 3) := by decide +kernel
theorem dX11_run_7 : decode cX11_run 7 = .ok (.ifCond .ne 6, 3) := by decide +kernel
theorem dX11_run_10 : decode cX11_run 10 = .ok (.bipush (-2), 2) := by decide +kernel
theorem dX11_run_12 : decode cX11_run 12 = .ok (.ireturn, 1) := by decide +kernel
theorem dX11_run_13 : decode cX11_run 13 = .ok (.aload_n 0, 1) := by decide +kernel
theorem dX11_run_14 : decode cX11_run 14 = .ok (.getfield 24, 3) := by decide +kernel
theorem dX11_run_17 : decode cX11_run 17 = .ok (.iload_n 1, 1) := by decide +kernel
theorem dX11_run_18 : decode cX11_run 18 = .ok (.invokevirtual 103, 3) := by decide +kernel
theorem dX11_run_21 : decode cX11_run 21 = .ok (.ifCond .eq 15, 3) := by decide +kernel
theorem dX11_run_24 : decode cX11_run 24 = .ok (.iload 4, 2) := by decide +kernel
theorem dX11_run_26 : decode cX11_run 26 = .ok (.ifCond .lt 10, 3) := by decide +kernel
theorem dX11_run_29 : decode cX11_run 29 = .ok (.iload 4, 2) := by decide +kernel
theorem dX11_run_31 : decode cX11_run 31 = .ok (.ldc 141, 2) := by decide +kernel
theorem dX11_run_33 : decode cX11_run 33 = .ok (.if_icmp .le 6, 3) := by decide +kernel
theorem dX11_run_36 : decode cX11_run 36 = .ok (.bipush (-3), 2) := by decide +kernel
theorem dX11_run_38 : decode cX11_run 38 = .ok (.ireturn, 1) := by decide +kernel
theorem dX11_run_39 : decode cX11_run 39 = .ok (.aload_n 0, 1) := by decide +kernel
theorem dX11_run_40 : decode cX11_run 40 = .ok (.getfield 53, 3) := by decide +kernel
theorem dX11_run_43 : decode cX11_run 43 = .ok (.iload_n 1, 1) := by decide +kernel
theorem dX11_run_44 : decode cX11_run 44 = .ok (.iload_n 2, 1) := by decide +kernel
theorem dX11_run_45 : decode cX11_run 45 = .ok (.iload_n 3, 1) := by decide +kernel
theorem dX11_run_46 : decode cX11_run 46 = .ok (.iload 4, 2) := by decide +kernel
theorem dX11_run_48 : decode cX11_run 48 = .ok (.invokevirtual 142, 3) := by decide +kernel
theorem dX11_run_51 : decode cX11_run 51 = .ok (.ireturn, 1) := by decide +kernel
abbrev wcX11_run : List Cond := .code yX11_run cX11_run 5 (some .int) :: wsL_law
def fX11_run (v0 : Nat) (v1 : Int32) (v2 : Int32) (v3 : Int32) (v4 : Int32) (g : hs_S) : Option (Int32 × hs_S) :=
  if hs_kd g v0 = 9 then
  if ¬ (hs_R g v0 3) = 0 then
  if hs_kd g ((hs_R g v0 3) - 1) = 0 then
  if (hs_I g ((hs_R g v0 3) - 1) 4) = 0 then (
    some ((-2 : Int32), g)
  ) else (
    hs_bd (fX0_has ((hs_R g v0 3) - 1) v1 g) fun r5 g4 =>
    if r5 = 0 then (
      some ((-3 : Int32), g4)
    ) else (
      if v4 < 0 then (
        some ((-3 : Int32), g4)
      ) else (
        if v4 ≤ (100000 : Int32) then (
          if hs_kd g4 v0 = 9 then
          if ¬ (hs_R g4 v0 7) = 0 then
          if hs_kd g4 ((hs_R g4 v0 7) - 1) = 5 then
          hs_bd (fX6_perform ((hs_R g4 v0 7) - 1) v1 v2 v3 v4 g4) fun r11 g10 =>
          some (r11, g10)
          else none else none else none
        ) else (
          some ((-3 : Int32), g4)
        )
      )
    )
  )
  else none else none else none
abbrev rmX11_run : Room := { frames := 7, cells := 0, slots := 0, locals := 165 }
set_option maxHeartbeats 4000000 in
set_option maxRecDepth 100000 in
theorem ctX11_run (l : Launch) (B : Nat) (D : va_G) (E : Nat → ClassId) (v0 : Nat) (v1 : Int32) (v2 : Int32) (v3 : Int32) (v4 : Int32) (g : hs_S) (o : Int32 × hs_S) (hf : fX11_run v0 v1 v2 v3 v4 g = some o) : Met l yX11_run wcX11_run rmX11_run (hs_Pc B D E g [.ref (B + v0), .int v1, .int v2, .int v3, .int v4]) (hs_Qi B D E o) (0) (0) (hs_F B) := by
  refine Met.ofW (cc := cX11_run) (maxL := 5) (ret := (some .int)) (by decide) rfl ?_
  intro p e s m args below meth c s₁ Bd hml hv
  obtain ⟨rfl, hP, hK⟩ := hv
  have hx := Bd.exec
  have hb := Bd.bytes
  have hr := Bd.returns
  have hts := atoms_spec (ws := wcX11_run) Bd.pre
  have hown : s.vm.findClass RX11 = some m.cls := findClass_of_methodNamed Bd.named
  have hlocks := Bd.notSynchronized
  have hS : hs_Sx B s.heap s.heap [] := va_S.rf
  have hX : hs_cx cX11_run (some .int) 5 RX11 wcX11_run p s m (List.toArray [.ref (B + v0), .int v1, .int v2, .int v3, .int v4]) meth c D E := ⟨hx, hb, hr, hml, hown, hts, hlocks, hK⟩
  have hl := lv_entry ([.ref (B + v0), .int v1, .int v2, .int v3, .int v4]) (n := 5) (Nat.le_of_ble_eq_true rfl)
  rw [lg_entry_eq]
  generalize (lg_sl ([.ref (B + v0), .int v1, .int v2, .int v3, .int v4]) ++ List.replicate (5 - (lg_sl ([.ref (B + v0), .int v1, .int v2, .int v3, .int v4])).length) Slot.unset).toArray = ls at hl ⊢
  have hl : lv_has ls 5 [(0, .ref (B + v0)), (1, .int v1), (2, .int v2), (3, .int v3), (4, .int v4)] := hl
  have hP : hs_P B D E g s.heap := hP
  unfold fX11_run at hf
  refine lv_aload_n hx hb dX11_run_0 rfl (lv_at hl 0 rfl) ?_
  obtain ⟨h1, hf⟩ := hs_ck hf
  obtain ⟨h2, hf⟩ := hs_ck hf
  refine hs_getr (C := RX11) (T := TX11) (N := 8) hx hb hts (fun w h => List.mem_cons_of_mem _ (inlX11 w h)) hown hK.1 hP h1 (by decide) rfl 3 (by decide) (hts _ (List.mem_cons_of_mem _ wq19)) (fun _ h => h) rfl h2 dX11_run_1 ?_
  obtain ⟨h3, hf⟩ := hs_ck hf
  refine hs_geti (C := RX0) (T := TX0) (N := 5) hx hb hts (fun w h => List.mem_cons_of_mem _ (inlX0 w h)) hown hK.1 hP h3 (by decide) rfl 4 (by decide) (hts _ (List.mem_cons_of_mem _ wq181)) (fun _ h => h) rfl dX11_run_4 ?_
  refine lv_if_ne (tgt := 13) hx hb dX11_run_7 (by decide) (fun hc => ?_) (fun hc => ?_)
  · replace hf := hs_f hf hc
    refine lv_aload_n hx hb dX11_run_13 rfl (lv_at hl 0 rfl) ?_
    refine hs_getr (C := RX11) (T := TX11) (N := 8) hx hb hts (fun w h => List.mem_cons_of_mem _ (inlX11 w h)) hown hK.1 hP h1 (by decide) rfl 3 (by decide) (hts _ (List.mem_cons_of_mem _ wq19)) (fun _ h => h) rfl h2 dX11_run_14 ?_
    refine lv_iload_n hx hb dX11_run_17 rfl (lv_at hl 1 rfl) ?_
    obtain ⟨r5, g4, h6, hf⟩ := hs_bd_some hf
    refine hs_calli (va_runV (As := [.int v1]) (rest := []) ⟨hx, hb, hml, hown, hts⟩ (ctX0_has l B D E ((hs_R g v0 3) - 1) v1 g _ h6) (cwV 1 hts (hs_gV (fun _ h => List.mem_cons_of_mem _ h) wq641 wq275 wq276 wq15 wq277) rfl rfl rfl (by decide +kernel) ⟨Nat.le_of_ble_eq_true rfl, Nat.le_of_ble_eq_true rfl⟩) (hs_preV (r := (RX0, TX0, 5)) hP hK h3 (by decide) rfl) rfl rfl hl.1 rfl (lv_room (Nat.le_of_ble_eq_true rfl)) dX11_run_18 ⟨(Nat.le_of_ble_eq_true rfl), (Nat.le_of_ble_eq_true rfl)⟩) hS (fun H locs hP hS => ?_)
    refine lv_if_eq (tgt := 36) hx hb dX11_run_21 (by decide) (fun hc => ?_) (fun hc => ?_)
    · replace hf := hs_t hf hc
      refine lv_bipush (v := -3) hx hb dX11_run_36 (by decide) ?_
      exact hs_iret hx hb hr hlocks rfl hK hP hS hf dX11_run_38
    · replace hf := hs_f hf hc
      refine lv_iload hx hb dX11_run_24 (lv_at hl 4 rfl) ?_
      refine lv_if_lt (tgt := 36) hx hb dX11_run_26 (by decide) (fun hc => ?_) (fun hc => ?_)
      · replace hf := hs_t hf hc
        refine lv_bipush (v := -3) hx hb dX11_run_36 (by decide) ?_
        exact hs_iret hx hb hr hlocks rfl hK hP hS hf dX11_run_38
      · replace hf := hs_f hf hc
        refine lv_iload hx hb dX11_run_29 (lv_at hl 4 rfl) ?_
        refine lv_ldc (v := 100000) hx hb hown (hts _ (List.mem_cons_of_mem _ wq693)) dX11_run_31 ?_
        refine lv_icmp_le (tgt := 39) hx hb dX11_run_33 (by decide) (fun hc => ?_) (fun hc => ?_)
        · replace hf := hs_t hf hc
          refine lv_aload_n hx hb dX11_run_39 rfl (lv_at hl 0 rfl) ?_
          obtain ⟨h7, hf⟩ := hs_ck hf
          obtain ⟨h8, hf⟩ := hs_ck hf
          refine hs_getr (C := RX11) (T := TX11) (N := 8) hx hb hts (fun w h => List.mem_cons_of_mem _ (inlX11 w h)) hown hK.1 hP h7 (by decide) rfl 7 (by decide) (hts _ (List.mem_cons_of_mem _ wq35)) (fun _ h => h) rfl h8 dX11_run_40 ?_
          refine lv_iload_n hx hb dX11_run_43 rfl (lv_at hl 1 rfl) ?_
          refine lv_iload_n hx hb dX11_run_44 rfl (lv_at hl 2 rfl) ?_
          refine lv_iload_n hx hb dX11_run_45 rfl (lv_at hl 3 rfl) ?_
          refine lv_iload hx hb dX11_run_46 (lv_at hl 4 rfl) ?_
          obtain ⟨h9, hf⟩ := hs_ck hf
          obtain ⟨r11, g10, h12, hf⟩ := hs_bd_some hf
          refine hs_calli (va_runV (As := [.int v1, .int v2, .int v3, .int v4]) (rest := []) ⟨hx, hb, hml, hown, hts⟩ (ctX6_perform l B D E ((hs_R g4 v0 7) - 1) v1 v2 v3 v4 g4 _ h12) (cwV 4 hts (hs_gV (fun _ h => List.mem_cons_of_mem _ h) wq694 wq695 wq696 wq34 wq697) rfl rfl rfl (by decide +kernel) ⟨Nat.le_of_ble_eq_true rfl, Nat.le_of_ble_eq_true rfl⟩) (hs_preV (r := (RX6, TX6, 8)) hP hK h9 (by decide) rfl) rfl rfl hl.1 rfl (lv_room (Nat.le_of_ble_eq_true rfl)) dX11_run_48 ⟨(Nat.le_of_ble_eq_true rfl), (Nat.le_of_ble_eq_true rfl)⟩) hS (fun H locs hP hS => ?_)
          exact hs_iret hx hb hr hlocks rfl hK hP hS hf dX11_run_51
        · replace hf := hs_f hf hc
          refine lv_bipush (v := -3) hx hb dX11_run_36 (by decide) ?_
          exact hs_iret hx hb hr hlocks rfl hK hP hS hf dX11_run_38
  · replace hf := hs_t hf hc
    refine lv_bipush (v := -2) hx hb dX11_run_10 (by decide) ?_
    exact hs_iret hx hb hr hlocks rfl hK hP hS hf dX11_run_12

theorem dX11_answer_0 : decode cX11_answer 0 = .ok (.aload_n 0, 1) := by decide +kernel
theorem dX11_answer_1 : decode cX11_answer 1 = .ok (.getfield 53, 3) := by decide +kernel
theorem dX11_answer_4 : decode cX11_answer 4 = .ok (.getfield 146, 3) := by decide +kernel
theorem dX11_answer_7 : decode cX11_answer 7 = .ok (.ireturn, 1) := by decide +kernel
abbrev wcX11_answer : List Cond := .code yX11_answer cX11_answer 1 (some .int) :: wsL_law
def fX11_answer (v0 : Nat) (g : hs_S) : Option (Int32 × hs_S) :=
  if hs_kd g v0 = 9 then
  if ¬ (hs_R g v0 7) = 0 then
  if hs_kd g ((hs_R g v0 7) - 1) = 5 then
  some ((hs_I g ((hs_R g v0 7) - 1) 5), g)
  else none else none else none
abbrev rmX11_answer : Room := { frames := 0, cells := 0, slots := 0, locals := 0 }
set_option maxHeartbeats 4000000 in
set_option maxRecDepth 100000 in
theorem ctX11_answer (l : Launch) (B : Nat) (D : va_G) (E : Nat → ClassId) (v0 : Nat) (g : hs_S) (o : Int32 × hs_S) (hf : fX11_answer v0 g = some o) : Met l yX11_answer wcX11_answer rmX11_answer (hs_Pc B D E g [.ref (B + v0)]) (hs_Qi B D E o) (0) (0) (hs_F B) := by
  refine Met.ofW (cc := cX11_answer) (maxL := 1) (ret := (some .int)) (by decide) rfl ?_
  intro p e s m args below meth c s₁ Bd hml hv
  obtain ⟨rfl, hP, hK⟩ := hv
  have hx := Bd.exec
  have hb := Bd.bytes
  have hr := Bd.returns
  have hts := atoms_spec (ws := wcX11_answer) Bd.pre
  have hown : s.vm.findClass RX11 = some m.cls := findClass_of_methodNamed Bd.named
  have hlocks := Bd.notSynchronized
  have hS : hs_Sx B s.heap s.heap [] := va_S.rf
  have hX : hs_cx cX11_answer (some .int) 1 RX11 wcX11_answer p s m (List.toArray [.ref (B + v0)]) meth c D E := ⟨hx, hb, hr, hml, hown, hts, hlocks, hK⟩
  have hl := lv_entry ([.ref (B + v0)]) (n := 1) (Nat.le_of_ble_eq_true rfl)
  rw [lg_entry_eq]
  generalize (lg_sl ([.ref (B + v0)]) ++ List.replicate (1 - (lg_sl ([.ref (B + v0)])).length) Slot.unset).toArray = ls at hl ⊢
  have hl : lv_has ls 1 [(0, .ref (B + v0))] := hl
  have hP : hs_P B D E g s.heap := hP
  unfold fX11_answer at hf
  refine lv_aload_n hx hb dX11_answer_0 rfl (lv_at hl 0 rfl) ?_
  obtain ⟨h1, hf⟩ := hs_ck hf
  obtain ⟨h2, hf⟩ := hs_ck hf
  refine hs_getr (C := RX11) (T := TX11) (N := 8) hx hb hts (fun w h => List.mem_cons_of_mem _ (inlX11 w h)) hown hK.1 hP h1 (by decide) rfl 7 (by decide) (hts _ (List.mem_cons_of_mem _ wq35)) (fun _ h => h) rfl h2 dX11_answer_1 ?_
  obtain ⟨h3, hf⟩ := hs_ck hf
  refine hs_geti (C := RX6) (T := TX6) (N := 8) hx hb hts (fun w h => List.mem_cons_of_mem _ (inlX6 w h)) hown hK.1 hP h3 (by decide) rfl 5 (by decide) (hts _ (List.mem_cons_of_mem _ wq921)) (fun _ h => h) rfl dX11_answer_4 ?_
  exact hs_iret hx hb hr hlocks rfl hK hP hS hf dX11_answer_7

theorem dX11_counted_0 : decode cX11_counted 0 = .ok (.aload_n 0, 1) := by decide +kernel
theorem dX11_counted_1 : decode cX11_counted 1 = .ok (.getfield 53, 3) := by decide +kernel
theorem dX11_counted_4 : decode cX11_counted 4 = .ok (.getfield 149, 3) := by decide +kernel
theorem dX11_counted_7 : decode cX11_counted 7 = .ok (.ireturn, 1) := by decide +kernel
abbrev wcX11_counted : List Cond := .code yX11_counted cX11_counted 1 (some .int) :: wsL_law
def fX11_counted (v0 : Nat) (g : hs_S) : Option (Int32 × hs_S) :=
  if hs_kd g v0 = 9 then
  if ¬ (hs_R g v0 7) = 0 then
  if hs_kd g ((hs_R g v0 7) - 1) = 5 then
  some ((hs_I g ((hs_R g v0 7) - 1) 6), g)
  else none else none else none
abbrev rmX11_counted : Room := { frames := 0, cells := 0, slots := 0, locals := 0 }
set_option maxHeartbeats 4000000 in
set_option maxRecDepth 100000 in
theorem ctX11_counted (l : Launch) (B : Nat) (D : va_G) (E : Nat → ClassId) (v0 : Nat) (g : hs_S) (o : Int32 × hs_S) (hf : fX11_counted v0 g = some o) : Met l yX11_counted wcX11_counted rmX11_counted (hs_Pc B D E g [.ref (B + v0)]) (hs_Qi B D E o) (0) (0) (hs_F B) := by
  refine Met.ofW (cc := cX11_counted) (maxL := 1) (ret := (some .int)) (by decide) rfl ?_
  intro p e s m args below meth c s₁ Bd hml hv
  obtain ⟨rfl, hP, hK⟩ := hv
  have hx := Bd.exec
  have hb := Bd.bytes
  have hr := Bd.returns
  have hts := atoms_spec (ws := wcX11_counted) Bd.pre
  have hown : s.vm.findClass RX11 = some m.cls := findClass_of_methodNamed Bd.named
  have hlocks := Bd.notSynchronized
  have hS : hs_Sx B s.heap s.heap [] := va_S.rf
  have hX : hs_cx cX11_counted (some .int) 1 RX11 wcX11_counted p s m (List.toArray [.ref (B + v0)]) meth c D E := ⟨hx, hb, hr, hml, hown, hts, hlocks, hK⟩
  have hl := lv_entry ([.ref (B + v0)]) (n := 1) (Nat.le_of_ble_eq_true rfl)
  rw [lg_entry_eq]
  generalize (lg_sl ([.ref (B + v0)]) ++ List.replicate (1 - (lg_sl ([.ref (B + v0)])).length) Slot.unset).toArray = ls at hl ⊢
  have hl : lv_has ls 1 [(0, .ref (B + v0))] := hl
  have hP : hs_P B D E g s.heap := hP
  unfold fX11_counted at hf
  refine lv_aload_n hx hb dX11_counted_0 rfl (lv_at hl 0 rfl) ?_
  obtain ⟨h1, hf⟩ := hs_ck hf
  obtain ⟨h2, hf⟩ := hs_ck hf
  refine hs_getr (C := RX11) (T := TX11) (N := 8) hx hb hts (fun w h => List.mem_cons_of_mem _ (inlX11 w h)) hown hK.1 hP h1 (by decide) rfl 7 (by decide) (hts _ (List.mem_cons_of_mem _ wq35)) (fun _ h => h) rfl h2 dX11_counted_1 ?_
  obtain ⟨h3, hf⟩ := hs_ck hf
  refine hs_geti (C := RX6) (T := TX6) (N := 8) hx hb hts (fun w h => List.mem_cons_of_mem _ (inlX6 w h)) hown hK.1 hP h3 (by decide) rfl 6 (by decide) (hts _ (List.mem_cons_of_mem _ wq930)) (fun _ h => h) rfl dX11_counted_4 ?_
  exact hs_iret hx hb hr hlocks rfl hK hP hS hf dX11_counted_7

theorem dX11_steps_0 : decode cX11_steps 0 = .ok (.aload_n 0, 1) := by decide +kernel
theorem dX11_steps_1 : decode cX11_steps 1 = .ok (.getfield 53, 3) := by decide +kernel
theorem dX11_steps_4 : decode cX11_steps 4 = .ok (.getfield 152, 3) := by decide +kernel
theorem dX11_steps_7 : decode cX11_steps 7 = .ok (.ireturn, 1) := by decide +kernel
abbrev wcX11_steps : List Cond := .code yX11_steps cX11_steps 1 (some .int) :: wsL_law
def fX11_steps (v0 : Nat) (g : hs_S) : Option (Int32 × hs_S) :=
  if hs_kd g v0 = 9 then
  if ¬ (hs_R g v0 7) = 0 then
  if hs_kd g ((hs_R g v0 7) - 1) = 5 then
  some ((hs_I g ((hs_R g v0 7) - 1) 7), g)
  else none else none else none
abbrev rmX11_steps : Room := { frames := 0, cells := 0, slots := 0, locals := 0 }
set_option maxHeartbeats 4000000 in
set_option maxRecDepth 100000 in
theorem ctX11_steps (l : Launch) (B : Nat) (D : va_G) (E : Nat → ClassId) (v0 : Nat) (g : hs_S) (o : Int32 × hs_S) (hf : fX11_steps v0 g = some o) : Met l yX11_steps wcX11_steps rmX11_steps (hs_Pc B D E g [.ref (B + v0)]) (hs_Qi B D E o) (0) (0) (hs_F B) := by
  refine Met.ofW (cc := cX11_steps) (maxL := 1) (ret := (some .int)) (by decide) rfl ?_
  intro p e s m args below meth c s₁ Bd hml hv
  obtain ⟨rfl, hP, hK⟩ := hv
  have hx := Bd.exec
  have hb := Bd.bytes
  have hr := Bd.returns
  have hts := atoms_spec (ws := wcX11_steps) Bd.pre
  have hown : s.vm.findClass RX11 = some m.cls := findClass_of_methodNamed Bd.named
  have hlocks := Bd.notSynchronized
  have hS : hs_Sx B s.heap s.heap [] := va_S.rf
  have hX : hs_cx cX11_steps (some .int) 1 RX11 wcX11_steps p s m (List.toArray [.ref (B + v0)]) meth c D E := ⟨hx, hb, hr, hml, hown, hts, hlocks, hK⟩
  have hl := lv_entry ([.ref (B + v0)]) (n := 1) (Nat.le_of_ble_eq_true rfl)
  rw [lg_entry_eq]
  generalize (lg_sl ([.ref (B + v0)]) ++ List.replicate (1 - (lg_sl ([.ref (B + v0)])).length) Slot.unset).toArray = ls at hl ⊢
  have hl : lv_has ls 1 [(0, .ref (B + v0))] := hl
  have hP : hs_P B D E g s.heap := hP
  unfold fX11_steps at hf
  refine lv_aload_n hx hb dX11_steps_0 rfl (lv_at hl 0 rfl) ?_
  obtain ⟨h1, hf⟩ := hs_ck hf
  obtain ⟨h2, hf⟩ := hs_ck hf
  refine hs_getr (C := RX11) (T := TX11) (N := 8) hx hb hts (fun w h => List.mem_cons_of_mem _ (inlX11 w h)) hown hK.1 hP h1 (by decide) rfl 7 (by decide) (hts _ (List.mem_cons_of_mem _ wq35)) (fun _ h => h) rfl h2 dX11_steps_1 ?_
  obtain ⟨h3, hf⟩ := hs_ck hf
  refine hs_geti (C := RX6) (T := TX6) (N := 8) hx hb hts (fun w h => List.mem_cons_of_mem _ (inlX6 w h)) hown hK.1 hP h3 (by decide) rfl 7 (by decide) (hts _ (List.mem_cons_of_mem _ wq939)) (fun _ h => h) rfl dX11_steps_4 ?_
  exact hs_iret hx hb hr hlocks rfl hK hP hS hf dX11_steps_7

theorem dX11_element_0 : decode cX11_element 0 = .ok (.iload_n 1, 1) := by decide +kernel
theorem dX11_element_1 : decode cX11_element 1 = .ok (.ifCond .lt 8, 3) := by decide +kernel
theorem dX11_element_4 : decode cX11_element 4 = .ok (.iload_n 1, 1) := by decide +kernel
theorem dX11_element_5 : decode cX11_element 5 = .ok (.iconst 4, 1) := by decide +kernel
theorem dX11_element_6 : decode cX11_element 6 = .ok (.if_icmp .lt 6, 3) := by decide +kernel
theorem dX11_element_9 : decode cX11_element 9 = .ok (.bipush (-3), 2) := by decide +kernel
theorem dX11_element_11 : decode cX11_element 11 = .ok (.ireturn, 1) := by decide +kernel
theorem dX11_element_12 : decode cX11_element 12 = .ok (.iload_n 2, 1) := by decide +kernel
theorem dX11_element_13 : decode cX11_element 13 = .ok (.iconst (-1), 1) := by decide +kernel
theorem dX11_element_14 : decode cX11_element 14 = .ok (.if_icmp .ne 15, 3) := by decide +kernel
theorem dX11_element_17 : decode cX11_element 17 = .ok (.aload_n 0, 1) := by decide +kernel
theorem dX11_element_18 : decode cX11_element 18 = .ok (.getfield 53, 3) := by decide +kernel
theorem dX11_element_21 : decode cX11_element 21 = .ok (.getfield 155, 3) := by decide +kernel
theorem dX11_element_24 : decode cX11_element 24 = .ok (.iload_n 1, 1) := by decide +kernel
theorem dX11_element_25 : decode cX11_element 25 = .ok (.invokevirtual 159, 3) := by decide +kernel
theorem dX11_element_28 : decode cX11_element 28 = .ok (.ireturn, 1) := by decide +kernel
theorem dX11_element_29 : decode cX11_element 29 = .ok (.aload_n 0, 1) := by decide +kernel
theorem dX11_element_30 : decode cX11_element 30 = .ok (.getfield 53, 3) := by decide +kernel
theorem dX11_element_33 : decode cX11_element 33 = .ok (.getfield 155, 3) := by decide +kernel
theorem dX11_element_36 : decode cX11_element 36 = .ok (.iload_n 1, 1) := by decide +kernel
theorem dX11_element_37 : decode cX11_element 37 = .ok (.iload_n 2, 1) := by decide +kernel
theorem dX11_element_38 : decode cX11_element 38 = .ok (.invokevirtual 162, 3) := by decide +kernel
theorem dX11_element_41 : decode cX11_element 41 = .ok (.ifCond .eq 18, 3) := by decide +kernel
theorem dX11_element_44 : decode cX11_element 44 = .ok (.aload_n 0, 1) := by decide +kernel
theorem dX11_element_45 : decode cX11_element 45 = .ok (.getfield 53, 3) := by decide +kernel
theorem dX11_element_48 : decode cX11_element 48 = .ok (.getfield 155, 3) := by decide +kernel
theorem dX11_element_51 : decode cX11_element 51 = .ok (.iload_n 1, 1) := by decide +kernel
theorem dX11_element_52 : decode cX11_element 52 = .ok (.iload_n 2, 1) := by decide +kernel
theorem dX11_element_53 : decode cX11_element 53 = .ok (.invokevirtual 165, 3) := by decide +kernel
theorem dX11_element_56 : decode cX11_element 56 = .ok (.goto 4, 3) := by decide +kernel
theorem dX11_element_59 : decode cX11_element 59 = .ok (.iconst (-1), 1) := by decide +kernel
theorem dX11_element_60 : decode cX11_element 60 = .ok (.ireturn, 1) := by decide +kernel
abbrev wcX11_element : List Cond := .code yX11_element cX11_element 3 (some .int) :: wsL_law
def fX11_element (v0 : Nat) (v1 : Int32) (v2 : Int32) (g : hs_S) : Option (Int32 × hs_S) :=
  if v1 < 0 then (
    some ((-3 : Int32), g)
  ) else (
    if v1 < (4 : Int32) then (
      if v2 = (-1 : Int32) then (
        if hs_kd g v0 = 9 then
        if ¬ (hs_R g v0 7) = 0 then
        if hs_kd g ((hs_R g v0 7) - 1) = 5 then
        if ¬ (hs_R g ((hs_R g v0 7) - 1) 2) = 0 then
        if hs_kd g ((hs_R g ((hs_R g v0 7) - 1) 2) - 1) = 8 then
        hs_bd (fX10_sizeOf ((hs_R g ((hs_R g v0 7) - 1) 2) - 1) v1 g) fun r23 g22 =>
        some (r23, g22)
        else none else none else none else none else none
      ) else (
        if hs_kd g v0 = 9 then
        if ¬ (hs_R g v0 7) = 0 then
        if hs_kd g ((hs_R g v0 7) - 1) = 5 then
        if ¬ (hs_R g ((hs_R g v0 7) - 1) 2) = 0 then
        if hs_kd g ((hs_R g ((hs_R g v0 7) - 1) 2) - 1) = 8 then
        hs_bd (fX10_has ((hs_R g ((hs_R g v0 7) - 1) 2) - 1) v1 v2 g) fun r7 g6 =>
        if r7 = 0 then (
          some ((-1 : Int32), g6)
        ) else (
          if hs_kd g6 v0 = 9 then
          if ¬ (hs_R g6 v0 7) = 0 then
          if hs_kd g6 ((hs_R g6 v0 7) - 1) = 5 then
          if ¬ (hs_R g6 ((hs_R g6 v0 7) - 1) 2) = 0 then
          if hs_kd g6 ((hs_R g6 ((hs_R g6 v0 7) - 1) 2) - 1) = 8 then
          hs_bd (fX10_get ((hs_R g6 ((hs_R g6 v0 7) - 1) 2) - 1) v1 v2 g6) fun r15 g14 =>
          some (r15, g14)
          else none else none else none else none else none
        )
        else none else none else none else none else none
      )
    ) else (
      some ((-3 : Int32), g)
    )
  )
abbrev rmX11_element : Room := { frames := 3, cells := 0, slots := 0, locals := 64 }
set_option maxHeartbeats 4000000 in
set_option maxRecDepth 100000 in
theorem ctX11_element (l : Launch) (B : Nat) (D : va_G) (E : Nat → ClassId) (v0 : Nat) (v1 : Int32) (v2 : Int32) (g : hs_S) (o : Int32 × hs_S) (hf : fX11_element v0 v1 v2 g = some o) : Met l yX11_element wcX11_element rmX11_element (hs_Pc B D E g [.ref (B + v0), .int v1, .int v2]) (hs_Qi B D E o) (0) (0) (hs_F B) := by
  refine Met.ofW (cc := cX11_element) (maxL := 3) (ret := (some .int)) (by decide) rfl ?_
  intro p e s m args below meth c s₁ Bd hml hv
  obtain ⟨rfl, hP, hK⟩ := hv
  have hx := Bd.exec
  have hb := Bd.bytes
  have hr := Bd.returns
  have hts := atoms_spec (ws := wcX11_element) Bd.pre
  have hown : s.vm.findClass RX11 = some m.cls := findClass_of_methodNamed Bd.named
  have hlocks := Bd.notSynchronized
  have hS : hs_Sx B s.heap s.heap [] := va_S.rf
  have hX : hs_cx cX11_element (some .int) 3 RX11 wcX11_element p s m (List.toArray [.ref (B + v0), .int v1, .int v2]) meth c D E := ⟨hx, hb, hr, hml, hown, hts, hlocks, hK⟩
  have hl := lv_entry ([.ref (B + v0), .int v1, .int v2]) (n := 3) (Nat.le_of_ble_eq_true rfl)
  rw [lg_entry_eq]
  generalize (lg_sl ([.ref (B + v0), .int v1, .int v2]) ++ List.replicate (3 - (lg_sl ([.ref (B + v0), .int v1, .int v2])).length) Slot.unset).toArray = ls at hl ⊢
  have hl : lv_has ls 3 [(0, .ref (B + v0)), (1, .int v1), (2, .int v2)] := hl
  have hP : hs_P B D E g s.heap := hP
  unfold fX11_element at hf
  refine lv_iload_n hx hb dX11_element_0 rfl (lv_at hl 1 rfl) ?_
  refine lv_if_lt (tgt := 9) hx hb dX11_element_1 (by decide) (fun hc => ?_) (fun hc => ?_)
  · replace hf := hs_t hf hc
    refine lv_bipush (v := -3) hx hb dX11_element_9 (by decide) ?_
    exact hs_iret hx hb hr hlocks rfl hK hP hS hf dX11_element_11
  · replace hf := hs_f hf hc
    refine lv_iload_n hx hb dX11_element_4 rfl (lv_at hl 1 rfl) ?_
    refine lv_iconst (v := 4) hx hb dX11_element_5 (by decide) ?_
    refine lv_icmp_lt (tgt := 12) hx hb dX11_element_6 (by decide) (fun hc => ?_) (fun hc => ?_)
    · replace hf := hs_t hf hc
      refine lv_iload_n hx hb dX11_element_12 rfl (lv_at hl 2 rfl) ?_
      refine lv_iconst (v := -1) hx hb dX11_element_13 (by decide) ?_
      refine lv_icmp_ne (tgt := 29) hx hb dX11_element_14 (by decide) (fun hc => ?_) (fun hc => ?_)
      · replace hf := hs_f hf hc
        refine lv_aload_n hx hb dX11_element_29 rfl (lv_at hl 0 rfl) ?_
        obtain ⟨h1, hf⟩ := hs_ck hf
        obtain ⟨h2, hf⟩ := hs_ck hf
        refine hs_getr (C := RX11) (T := TX11) (N := 8) hx hb hts (fun w h => List.mem_cons_of_mem _ (inlX11 w h)) hown hK.1 hP h1 (by decide) rfl 7 (by decide) (hts _ (List.mem_cons_of_mem _ wq35)) (fun _ h => h) rfl h2 dX11_element_30 ?_
        obtain ⟨h3, hf⟩ := hs_ck hf
        obtain ⟨h4, hf⟩ := hs_ck hf
        refine hs_getr (C := RX6) (T := TX6) (N := 8) hx hb hts (fun w h => List.mem_cons_of_mem _ (inlX6 w h)) hown hK.1 hP h3 (by decide) rfl 2 (by decide) (hts _ (List.mem_cons_of_mem _ wq948)) (fun _ h => h) rfl h4 dX11_element_33 ?_
        refine lv_iload_n hx hb dX11_element_36 rfl (lv_at hl 1 rfl) ?_
        refine lv_iload_n hx hb dX11_element_37 rfl (lv_at hl 2 rfl) ?_
        obtain ⟨h5, hf⟩ := hs_ck hf
        obtain ⟨r7, g6, h8, hf⟩ := hs_bd_some hf
        refine hs_calli (va_runV (As := [.int v1, .int v2]) (rest := []) ⟨hx, hb, hml, hown, hts⟩ (ctX10_has l B D E ((hs_R g ((hs_R g v0 7) - 1) 2) - 1) v1 v2 g _ h8) (cwV 2 hts (hs_gV (fun _ h => List.mem_cons_of_mem _ h) wq950 wq819 wq820 wq97 wq821) rfl rfl rfl (by decide +kernel) ⟨Nat.le_of_ble_eq_true rfl, Nat.le_of_ble_eq_true rfl⟩) (hs_preV (r := (RX10, TX10, 2)) hP hK h5 (by decide) rfl) rfl rfl hl.1 rfl (lv_room (Nat.le_of_ble_eq_true rfl)) dX11_element_38 ⟨(Nat.le_of_ble_eq_true rfl), (Nat.le_of_ble_eq_true rfl)⟩) hS (fun H locs hP hS => ?_)
        refine lv_if_eq (tgt := 59) hx hb dX11_element_41 (by decide) (fun hc => ?_) (fun hc => ?_)
        · replace hf := hs_t hf hc
          refine lv_iconst (v := -1) hx hb dX11_element_59 (by decide) ?_
          exact hs_iret hx hb hr hlocks rfl hK hP hS hf dX11_element_60
        · replace hf := hs_f hf hc
          refine lv_aload_n hx hb dX11_element_44 rfl (lv_at hl 0 rfl) ?_
          obtain ⟨h9, hf⟩ := hs_ck hf
          obtain ⟨h10, hf⟩ := hs_ck hf
          refine hs_getr (C := RX11) (T := TX11) (N := 8) hx hb hts (fun w h => List.mem_cons_of_mem _ (inlX11 w h)) hown hK.1 hP h9 (by decide) rfl 7 (by decide) (hts _ (List.mem_cons_of_mem _ wq35)) (fun _ h => h) rfl h10 dX11_element_45 ?_
          obtain ⟨h11, hf⟩ := hs_ck hf
          obtain ⟨h12, hf⟩ := hs_ck hf
          refine hs_getr (C := RX6) (T := TX6) (N := 8) hx hb hts (fun w h => List.mem_cons_of_mem _ (inlX6 w h)) hown hK.1 hP h11 (by decide) rfl 2 (by decide) (hts _ (List.mem_cons_of_mem _ wq948)) (fun _ h => h) rfl h12 dX11_element_48 ?_
          refine lv_iload_n hx hb dX11_element_51 rfl (lv_at hl 1 rfl) ?_
          refine lv_iload_n hx hb dX11_element_52 rfl (lv_at hl 2 rfl) ?_
          obtain ⟨h13, hf⟩ := hs_ck hf
          obtain ⟨r15, g14, h16, hf⟩ := hs_bd_some hf
          refine hs_calli (va_runV (As := [.int v1, .int v2]) (rest := []) ⟨hx, hb, hml, hown, hts⟩ (ctX10_get l B D E ((hs_R g6 ((hs_R g6 v0 7) - 1) 2) - 1) v1 v2 g6 _ h16) (cwV 2 hts (hs_gV (fun _ h => List.mem_cons_of_mem _ h) wq951 wq825 wq826 wq97 wq827) rfl rfl rfl (by decide +kernel) ⟨Nat.le_of_ble_eq_true rfl, Nat.le_of_ble_eq_true rfl⟩) (hs_preV (r := (RX10, TX10, 2)) hP hK h13 (by decide) rfl) rfl rfl hl.1 rfl (lv_room (Nat.le_of_ble_eq_true rfl)) dX11_element_53 ⟨(Nat.le_of_ble_eq_true rfl), (Nat.le_of_ble_eq_true rfl)⟩) hS (fun H locs hP hS => ?_)
          refine lv_goto (tgt := 60) hx hb dX11_element_56 (by decide) ?_
          exact hs_iret hx hb hr hlocks rfl hK hP hS hf dX11_element_60
      · replace hf := hs_t hf hc
        refine lv_aload_n hx hb dX11_element_17 rfl (lv_at hl 0 rfl) ?_
        obtain ⟨h17, hf⟩ := hs_ck hf
        obtain ⟨h18, hf⟩ := hs_ck hf
        refine hs_getr (C := RX11) (T := TX11) (N := 8) hx hb hts (fun w h => List.mem_cons_of_mem _ (inlX11 w h)) hown hK.1 hP h17 (by decide) rfl 7 (by decide) (hts _ (List.mem_cons_of_mem _ wq35)) (fun _ h => h) rfl h18 dX11_element_18 ?_
        obtain ⟨h19, hf⟩ := hs_ck hf
        obtain ⟨h20, hf⟩ := hs_ck hf
        refine hs_getr (C := RX6) (T := TX6) (N := 8) hx hb hts (fun w h => List.mem_cons_of_mem _ (inlX6 w h)) hown hK.1 hP h19 (by decide) rfl 2 (by decide) (hts _ (List.mem_cons_of_mem _ wq948)) (fun _ h => h) rfl h20 dX11_element_21 ?_
        refine lv_iload_n hx hb dX11_element_24 rfl (lv_at hl 1 rfl) ?_
        obtain ⟨h21, hf⟩ := hs_ck hf
        obtain ⟨r23, g22, h24, hf⟩ := hs_bd_some hf
        refine hs_calli (va_runV (As := [.int v1]) (rest := []) ⟨hx, hb, hml, hown, hts⟩ (ctX10_sizeOf l B D E ((hs_R g ((hs_R g v0 7) - 1) 2) - 1) v1 g _ h24) (cwV 1 hts (hs_gV (fun _ h => List.mem_cons_of_mem _ h) wq949 wq814 wq815 wq97 wq816) rfl rfl rfl (by decide +kernel) ⟨Nat.le_of_ble_eq_true rfl, Nat.le_of_ble_eq_true rfl⟩) (hs_preV (r := (RX10, TX10, 2)) hP hK h21 (by decide) rfl) rfl rfl hl.1 rfl (lv_room (Nat.le_of_ble_eq_true rfl)) dX11_element_25 ⟨(Nat.le_of_ble_eq_true rfl), (Nat.le_of_ble_eq_true rfl)⟩) hS (fun H locs hP hS => ?_)
        exact hs_iret hx hb hr hlocks rfl hK hP hS hf dX11_element_28
    · replace hf := hs_f hf hc
      refine lv_bipush (v := -3) hx hb dX11_element_9 (by decide) ?_
      exact hs_iret hx hb hr hlocks rfl hK hP hS hf dX11_element_11

