theorem dX1_reach_0 : decode cX1_reach 0 = .ok (.aload_n 0, 1) := by decide +kernel
theorem dX1_reach_1 : decode cX1_reach 1 = .ok (.getfield 9, 3) := by decide +kernel
theorem dX1_reach_4 : decode cX1_reach 4 = .ok (.iload_n 1, 1) := by decide +kernel
theorem dX1_reach_5 : decode cX1_reach 5 = .ok (.invokestatic 77, 3) := by decide +kernel
theorem dX1_reach_8 : decode cX1_reach 8 = .ok (.istore_n 3, 1) := by decide +kernel
theorem dX1_reach_9 : decode cX1_reach 9 = .ok (.iload_n 3, 1) := by decide +kernel
theorem dX1_reach_10 : decode cX1_reach 10 = .ok (.iconst (-1), 1) := by decide +kernel
theorem dX1_reach_11 : decode cX1_reach 11 = .ok (.if_icmp .ne 26, 3) := by decide +kernel
theorem dX1_reach_14 : decode cX1_reach 14 = .ok (.aload_n 0, 1) := by decide +kernel
theorem dX1_reach_15 : decode cX1_reach 15 = .ok (.getfield 9, 3) := by decide +kernel
theorem dX1_reach_18 : decode cX1_reach 18 = .ok (.iload_n 1, 1) := by decide +kernel
theorem dX1_reach_19 : decode cX1_reach 19 = .ok (.iload_n 2, 1) := by decide +kernel
theorem dX1_reach_20 : decode cX1_reach 20 = .ok (.invokestatic 46, 3) := by decide +kernel
theorem dX1_reach_23 : decode cX1_reach 23 = .ok (.aload_n 0, 1) := by decide +kernel
theorem dX1_reach_24 : decode cX1_reach 24 = .ok (.aload_n 0, 1) := by decide +kernel
theorem dX1_reach_25 : decode cX1_reach 25 = .ok (.getfield 43, 3) := by decide +kernel
theorem dX1_reach_28 : decode cX1_reach 28 = .ok (.iload_n 1, 1) := by decide +kernel
theorem dX1_reach_29 : decode cX1_reach 29 = .ok (.invokestatic 111, 3) := by decide +kernel
theorem dX1_reach_32 : decode cX1_reach 32 = .ok (.putfield 43, 3) := by decide +kernel
theorem dX1_reach_35 : decode cX1_reach 35 = .ok (.iconst (-1), 1) := by decide +kernel
theorem dX1_reach_36 : decode cX1_reach 36 = .ok (.ireturn, 1) := by decide +kernel
theorem dX1_reach_37 : decode cX1_reach 37 = .ok (.iload_n 3, 1) := by decide +kernel
theorem dX1_reach_38 : decode cX1_reach 38 = .ok (.iload_n 2, 1) := by decide +kernel
theorem dX1_reach_39 : decode cX1_reach 39 = .ok (.if_icmp .ne 7, 3) := by decide +kernel
theorem dX1_reach_42 : decode cX1_reach 42 = .ok (.iconst (-1), 1) := by decide +kernel
theorem dX1_reach_43 : decode cX1_reach 43 = .ok (.goto 4, 3) := by decide +kernel
theorem dX1_reach_46 : decode cX1_reach 46 = .ok (.iload_n 1, 1) := by decide +kernel
theorem dX1_reach_47 : decode cX1_reach 47 = .ok (.ireturn, 1) := by decide +kernel
abbrev wcX1_reach : List Cond := .code yX1_reach cX1_reach 4 (some .int) :: wsL_law
def fX1_reach (v0 : Nat) (v1 : Int32) (v2 : Int32) (g : hs_S) : Option (Int32 × hs_S) :=
  if hs_kd g v0 = 1 then
  if ¬ (hs_R g v0 0) = 0 then
  hs_bd (fX9_at ((hs_R g v0 0) - 1) v1 g) fun r4 g3 =>
  if r4 = (-1 : Int32) then (
    if hs_kd g3 v0 = 1 then
    if ¬ (hs_R g3 v0 0) = 0 then
    hs_bv (fX9_put ((hs_R g3 v0 0) - 1) v1 v2 g3) fun g8 =>
    if hs_kd g8 v0 = 1 then
    some ((-1 : Int32), (hs_wI g8 v0 2 (if v1 < (hs_I g8 v0 2) then v1 else (hs_I g8 v0 2))))
    else none else none else none
  ) else (
    if r4 = v2 then (
      some ((-1 : Int32), g3)
    ) else (
      some (v1, g3)
    )
  )
  else none else none
abbrev rmX1_reach : Room := { frames := 1, cells := 0, slots := 0, locals := 22 }
set_option maxHeartbeats 4000000 in
set_option maxRecDepth 100000 in
theorem ctX1_reach (l : Launch) (B : Nat) (D : va_G) (E : Nat → ClassId) (v0 : Nat) (v1 : Int32) (v2 : Int32) (g : hs_S) (o : Int32 × hs_S) (hf : fX1_reach v0 v1 v2 g = some o) : Met l yX1_reach wcX1_reach rmX1_reach (hs_Pc B D E g [.ref (B + v0), .int v1, .int v2]) (hs_Qi B D E o) (0) (0) (hs_F B) := by
  refine Met.ofW (cc := cX1_reach) (maxL := 4) (ret := (some .int)) (by decide) rfl ?_
  intro p e s m args below meth c s₁ Bd hml hv
  obtain ⟨rfl, hP, hK⟩ := hv
  have hx := Bd.exec
  have hb := Bd.bytes
  have hr := Bd.returns
  have hts := atoms_spec (ws := wcX1_reach) Bd.pre
  have hown : s.vm.findClass RX1 = some m.cls := findClass_of_methodNamed Bd.named
  have hlocks := Bd.notSynchronized
  have hS : hs_Sx B s.heap s.heap [] := va_S.rf
  have hX : hs_cx cX1_reach (some .int) 4 RX1 wcX1_reach p s m (List.toArray [.ref (B + v0), .int v1, .int v2]) meth c D E := ⟨hx, hb, hr, hml, hown, hts, hlocks, hK⟩
  have hl := lv_entry ([.ref (B + v0), .int v1, .int v2]) (n := 4) (Nat.le_of_ble_eq_true rfl)
  rw [lg_entry_eq]
  generalize (lg_sl ([.ref (B + v0), .int v1, .int v2]) ++ List.replicate (4 - (lg_sl ([.ref (B + v0), .int v1, .int v2])).length) Slot.unset).toArray = ls at hl ⊢
  have hl : lv_has ls 4 [(0, .ref (B + v0)), (1, .int v1), (2, .int v2)] := hl
  have hP : hs_P B D E g s.heap := hP
  unfold fX1_reach at hf
  refine lv_aload_n hx hb dX1_reach_0 rfl (lv_at hl 0 rfl) ?_
  obtain ⟨h1, hf⟩ := hs_ck hf
  obtain ⟨h2, hf⟩ := hs_ck hf
  refine hs_getr (C := RX1) (T := TX1) (N := 3) hx hb hts (fun w h => List.mem_cons_of_mem _ (inlX1 w h)) hown hK.1 hP h1 (by decide) rfl 0 (by decide) (hts _ (List.mem_cons_of_mem _ wq80)) (fun _ h => h) rfl h2 dX1_reach_1 ?_
  refine lv_iload_n hx hb dX1_reach_4 rfl (lv_at hl 1 rfl) ?_
  obtain ⟨r4, g3, h5, hf⟩ := hs_bd_some hf
  refine hs_calli (va_runS (As := [.ref (B + ((hs_R g v0 0) - 1)), .int v1]) (rest := []) ⟨hx, hb, hml, hown, hts⟩ (ctX9_at l B D E ((hs_R g v0 0) - 1) v1 g _ h5) (va_cwS 2 hts (hs_gS (fun _ h => List.mem_cons_of_mem _ h) wq352 wq193 wq68 wq194) rfl rfl rfl (by decide +kernel) ⟨Nat.le_of_ble_eq_true rfl, Nat.le_of_ble_eq_true rfl⟩) (hs_pre hP hK) rfl rfl hl.1 rfl (lv_room (Nat.le_of_ble_eq_true rfl)) dX1_reach_5 ⟨(Nat.le_of_ble_eq_true rfl), (Nat.le_of_ble_eq_true rfl)⟩) hS (fun H locs hP hS => ?_)
  refine lv_istore_n (lv' := [(3, .int r4), (0, .ref (B + v0)), (1, .int v1), (2, .int v2)]) hx hb dX1_reach_8 rfl hl (by decide) rfl (fun ls hl => ?_)
  refine lv_iload_n hx hb dX1_reach_9 rfl (lv_at hl 0 rfl) ?_
  refine lv_iconst (v := -1) hx hb dX1_reach_10 (by decide) ?_
  refine lv_icmp_ne (tgt := 37) hx hb dX1_reach_11 (by decide) (fun hc => ?_) (fun hc => ?_)
  · replace hf := hs_f hf hc
    refine lv_iload_n hx hb dX1_reach_37 rfl (lv_at hl 0 rfl) ?_
    refine lv_iload_n hx hb dX1_reach_38 rfl (lv_at hl 3 rfl) ?_
    refine lv_icmp_ne (tgt := 46) hx hb dX1_reach_39 (by decide) (fun hc => ?_) (fun hc => ?_)
    · replace hf := hs_f hf hc
      refine lv_iload_n hx hb dX1_reach_46 rfl (lv_at hl 2 rfl) ?_
      exact hs_iret hx hb hr hlocks rfl hK hP hS hf dX1_reach_47
    · replace hf := hs_t hf hc
      refine lv_iconst (v := -1) hx hb dX1_reach_42 (by decide) ?_
      refine lv_goto (tgt := 47) hx hb dX1_reach_43 (by decide) ?_
      exact hs_iret hx hb hr hlocks rfl hK hP hS hf dX1_reach_47
  · replace hf := hs_t hf hc
    refine lv_aload_n hx hb dX1_reach_14 rfl (lv_at hl 1 rfl) ?_
    obtain ⟨h6, hf⟩ := hs_ck hf
    obtain ⟨h7, hf⟩ := hs_ck hf
    refine hs_getr (C := RX1) (T := TX1) (N := 3) hx hb hts (fun w h => List.mem_cons_of_mem _ (inlX1 w h)) hown hK.1 hP h6 (by decide) rfl 0 (by decide) (hts _ (List.mem_cons_of_mem _ wq80)) (fun _ h => h) rfl h7 dX1_reach_15 ?_
    refine lv_iload_n hx hb dX1_reach_18 rfl (lv_at hl 2 rfl) ?_
    refine lv_iload_n hx hb dX1_reach_19 rfl (lv_at hl 3 rfl) ?_
    obtain ⟨g8, h10, hf⟩ := hs_bv_some hf
    refine hs_callv (va_runS (As := [.ref (B + ((hs_R g3 v0 0) - 1)), .int v1, .int v2]) (rest := []) ⟨hx, hb, hml, hown, hts⟩ (ctX9_put l B D E ((hs_R g3 v0 0) - 1) v1 v2 g3 _ h10) (va_cwS 3 hts (hs_gS (fun _ h => List.mem_cons_of_mem _ h) wq346 wq67 wq68 wq69) rfl rfl rfl (by decide +kernel) ⟨Nat.le_of_ble_eq_true rfl, Nat.le_of_ble_eq_true rfl⟩) (hs_pre hP hK) rfl rfl hl.1 rfl (lv_room (Nat.le_of_ble_eq_true rfl)) dX1_reach_20 ⟨(Nat.le_of_ble_eq_true rfl), (Nat.le_of_ble_eq_true rfl)⟩) hS (fun H locs hP hS => ?_)
    refine lv_aload_n hx hb dX1_reach_23 rfl (lv_at hl 1 rfl) ?_
    refine lv_aload_n hx hb dX1_reach_24 rfl (lv_at hl 1 rfl) ?_
    obtain ⟨h11, hf⟩ := hs_ck hf
    refine hs_geti (C := RX1) (T := TX1) (N := 3) hx hb hts (fun w h => List.mem_cons_of_mem _ (inlX1 w h)) hown hK.1 hP h11 (by decide) rfl 2 (by decide) (hts _ (List.mem_cons_of_mem _ wq341)) (fun _ h => h) rfl dX1_reach_25 ?_
    refine lv_iload_n hx hb dX1_reach_28 rfl (lv_at hl 2 rfl) ?_
    refine va_mmin hx hb (hml.trans hl.1.symm) hown (hts _ (List.mem_cons_of_mem _ wq358)) (hts _ (List.mem_cons_of_mem _ wq359)) (hts _ (List.mem_cons_of_mem _ wq360)) (hts _ (List.mem_cons_of_mem _ wq361)) (Nat.le_of_ble_eq_true rfl) (Nat.le_of_ble_eq_true rfl) (Nat.le_of_ble_eq_true rfl) (Nat.le_of_ble_eq_true rfl) dX1_reach_29 ?_
    refine hs_puti (C := RX1) (T := TX1) (N := 3) hx hb hts (fun w h => List.mem_cons_of_mem _ (inlX1 w h)) tyX1 tyX1_ok nmX1 hown hK.1 hP hS h11 (by decide) rfl 2 (by decide) (hts _ (List.mem_cons_of_mem _ wq341)) (fun _ h => h) (Or.inl rfl) rfl rfl rfl dX1_reach_32 (fun H locs hP hS => ?_)
    refine lv_iconst (v := -1) hx hb dX1_reach_35 (by decide) ?_
    exact hs_iret hx hb hr hlocks rfl hK hP hS hf dX1_reach_36

theorem dX1_goOn_0 : decode cX1_goOn 0 = .ok (.aload_n 0, 1) := by decide +kernel
theorem dX1_goOn_1 : decode cX1_goOn 1 = .ok (.getfield 15, 3) := by decide +kernel
theorem dX1_goOn_4 : decode cX1_goOn 4 = .ok (.iload_n 3, 1) := by decide +kernel
theorem dX1_goOn_5 : decode cX1_goOn 5 = .ok (.iconst 1, 1) := by decide +kernel
theorem dX1_goOn_6 : decode cX1_goOn 6 = .ok (.invokestatic 46, 3) := by decide +kernel
theorem dX1_goOn_9 : decode cX1_goOn 9 = .ok (.aload_n 2, 1) := by decide +kernel
theorem dX1_goOn_10 : decode cX1_goOn 10 = .ok (.iload_n 3, 1) := by decide +kernel
theorem dX1_goOn_11 : decode cX1_goOn 11 = .ok (.invokevirtual 81, 3) := by decide +kernel
theorem dX1_goOn_14 : decode cX1_goOn 14 = .ok (.istore 4, 2) := by decide +kernel
theorem dX1_goOn_16 : decode cX1_goOn 16 = .ok (.iload 4, 2) := by decide +kernel
theorem dX1_goOn_18 : decode cX1_goOn 18 = .ok (.sipush 184, 3) := by decide +kernel
theorem dX1_goOn_21 : decode cX1_goOn 21 = .ok (.if_icmp .ne 13, 3) := by decide +kernel
theorem dX1_goOn_24 : decode cX1_goOn 24 = .ok (.aload_n 2, 1) := by decide +kernel
theorem dX1_goOn_25 : decode cX1_goOn 25 = .ok (.iload_n 3, 1) := by decide +kernel
theorem dX1_goOn_26 : decode cX1_goOn 26 = .ok (.iconst 1, 1) := by decide +kernel
theorem dX1_goOn_27 : decode cX1_goOn 27 = .ok (.iadd, 1) := by decide +kernel
theorem dX1_goOn_28 : decode cX1_goOn 28 = .ok (.invokevirtual 81, 3) := by decide +kernel
theorem dX1_goOn_31 : decode cX1_goOn 31 = .ok (.goto 4, 3) := by decide +kernel
theorem dX1_goOn_34 : decode cX1_goOn 34 = .ok (.iconst (-1), 1) := by decide +kernel
theorem dX1_goOn_35 : decode cX1_goOn 35 = .ok (.istore 5, 2) := by decide +kernel
theorem dX1_goOn_37 : decode cX1_goOn 37 = .ok (.iload 4, 2) := by decide +kernel
theorem dX1_goOn_39 : decode cX1_goOn 39 = .ok (.invokestatic 87, 3) := by decide +kernel
theorem dX1_goOn_42 : decode cX1_goOn 42 = .ok (.aload_n 1, 1) := by decide +kernel
theorem dX1_goOn_43 : decode cX1_goOn 43 = .ok (.iload 5, 2) := by decide +kernel
theorem dX1_goOn_45 : decode cX1_goOn 45 = .ok (.invokevirtual 24, 3) := by decide +kernel
theorem dX1_goOn_48 : decode cX1_goOn 48 = .ok (.getfield 90, 3) := by decide +kernel
theorem dX1_goOn_51 : decode cX1_goOn 51 = .ok (.iadd, 1) := by decide +kernel
theorem dX1_goOn_52 : decode cX1_goOn 52 = .ok (.istore 6, 2) := by decide +kernel
theorem dX1_goOn_54 : decode cX1_goOn 54 = .ok (.aload_n 0, 1) := by decide +kernel
theorem dX1_goOn_55 : decode cX1_goOn 55 = .ok (.getfield 9, 3) := by decide +kernel
theorem dX1_goOn_58 : decode cX1_goOn 58 = .ok (.iload_n 3, 1) := by decide +kernel
theorem dX1_goOn_59 : decode cX1_goOn 59 = .ok (.invokestatic 77, 3) := by decide +kernel
theorem dX1_goOn_62 : decode cX1_goOn 62 = .ok (.iload 6, 2) := by decide +kernel
theorem dX1_goOn_64 : decode cX1_goOn 64 = .ok (.isub, 1) := by decide +kernel
theorem dX1_goOn_65 : decode cX1_goOn 65 = .ok (.istore 7, 2) := by decide +kernel
theorem dX1_goOn_67 : decode cX1_goOn 67 = .ok (.iload 7, 2) := by decide +kernel
theorem dX1_goOn_69 : decode cX1_goOn 69 = .ok (.iload 4, 2) := by decide +kernel
theorem dX1_goOn_71 : decode cX1_goOn 71 = .ok (.invokestatic 93, 3) := by decide +kernel
theorem dX1_goOn_74 : decode cX1_goOn 74 = .ok (.iadd, 1) := by decide +kernel
theorem dX1_goOn_75 : decode cX1_goOn 75 = .ok (.istore 8, 2) := by decide +kernel
theorem dX1_goOn_77 : decode cX1_goOn 77 = .ok (.iload_n 3, 1) := by decide +kernel
theorem dX1_goOn_78 : decode cX1_goOn 78 = .ok (.aload_n 2, 1) := by decide +kernel
theorem dX1_goOn_79 : decode cX1_goOn 79 = .ok (.iload_n 3, 1) := by decide +kernel
theorem dX1_goOn_80 : decode cX1_goOn 80 = .ok (.invokevirtual 96, 3) := by decide +kernel
theorem dX1_goOn_83 : decode cX1_goOn 83 = .ok (.iadd, 1) := by decide +kernel
theorem dX1_goOn_84 : decode cX1_goOn 84 = .ok (.istore 9, 2) := by decide +kernel
theorem dX1_goOn_86 : decode cX1_goOn 86 = .ok (.iload 4, 2) := by decide +kernel
theorem dX1_goOn_88 : decode cX1_goOn 88 = .ok (.invokestatic 99, 3) := by decide +kernel
theorem dX1_goOn_91 : decode cX1_goOn 91 = .ok (.ifCond .ne 7, 3) := by decide +kernel
theorem dX1_goOn_94 : decode cX1_goOn 94 = .ok (.iconst 1, 1) := by decide +kernel
theorem dX1_goOn_95 : decode cX1_goOn 95 = .ok (.goto 4, 3) := by decide +kernel
theorem dX1_goOn_98 : decode cX1_goOn 98 = .ok (.iconst 0, 1) := by decide +kernel
theorem dX1_goOn_99 : decode cX1_goOn 99 = .ok (.istore 10, 2) := by decide +kernel
theorem dX1_goOn_101 : decode cX1_goOn 101 = .ok (.iload 7, 2) := by decide +kernel
theorem dX1_goOn_103 : decode cX1_goOn 103 = .ok (.ifCond .lt 24, 3) := by decide +kernel
theorem dX1_goOn_106 : decode cX1_goOn 106 = .ok (.iload 8, 2) := by decide +kernel
theorem dX1_goOn_108 : decode cX1_goOn 108 = .ok (.bipush 20, 2) := by decide +kernel
theorem dX1_goOn_110 : decode cX1_goOn 110 = .ok (.if_icmp .gt 17, 3) := by decide +kernel
theorem dX1_goOn_113 : decode cX1_goOn 113 = .ok (.iload 10, 2) := by decide +kernel
theorem dX1_goOn_115 : decode cX1_goOn 115 = .ok (.ifCond .eq 14, 3) := by decide +kernel
theorem dX1_goOn_118 : decode cX1_goOn 118 = .ok (.iload 9, 2) := by decide +kernel
theorem dX1_goOn_120 : decode cX1_goOn 120 = .ok (.aload_n 2, 1) := by decide +kernel
theorem dX1_goOn_121 : decode cX1_goOn 121 = .ok (.getfield 59, 3) := by decide +kernel
theorem dX1_goOn_124 : decode cX1_goOn 124 = .ok (.if_icmp .lt 5, 3) := by decide +kernel
theorem dX1_goOn_127 : decode cX1_goOn 127 = .ok (.iload_n 3, 1) := by decide +kernel
theorem dX1_goOn_128 : decode cX1_goOn 128 = .ok (.ireturn, 1) := by decide +kernel
theorem dX1_goOn_129 : decode cX1_goOn 129 = .ok (.iload 10, 2) := by decide +kernel
theorem dX1_goOn_131 : decode cX1_goOn 131 = .ok (.ifCond .eq 14, 3) := by decide +kernel
theorem dX1_goOn_134 : decode cX1_goOn 134 = .ok (.aload_n 0, 1) := by decide +kernel
theorem dX1_goOn_135 : decode cX1_goOn 135 = .ok (.iload 9, 2) := by decide +kernel
theorem dX1_goOn_137 : decode cX1_goOn 137 = .ok (.iload 8, 2) := by decide +kernel
theorem dX1_goOn_139 : decode cX1_goOn 139 = .ok (.invokevirtual 102, 3) := by decide +kernel
theorem dX1_goOn_142 : decode cX1_goOn 142 = .ok (.goto 4, 3) := by decide +kernel
theorem dX1_goOn_145 : decode cX1_goOn 145 = .ok (.iconst (-1), 1) := by decide +kernel
theorem dX1_goOn_146 : decode cX1_goOn 146 = .ok (.istore 11, 2) := by decide +kernel
theorem dX1_goOn_148 : decode cX1_goOn 148 = .ok (.iload 4, 2) := by decide +kernel
theorem dX1_goOn_150 : decode cX1_goOn 150 = .ok (.invokestatic 105, 3) := by decide +kernel
theorem dX1_goOn_153 : decode cX1_goOn 153 = .ok (.ifCond .eq 17, 3) := by decide +kernel
theorem dX1_goOn_156 : decode cX1_goOn 156 = .ok (.aload_n 0, 1) := by decide +kernel
theorem dX1_goOn_157 : decode cX1_goOn 157 = .ok (.aload_n 2, 1) := by decide +kernel
theorem dX1_goOn_158 : decode cX1_goOn 158 = .ok (.iload_n 3, 1) := by decide +kernel
theorem dX1_goOn_159 : decode cX1_goOn 159 = .ok (.invokevirtual 108, 3) := by decide +kernel
theorem dX1_goOn_162 : decode cX1_goOn 162 = .ok (.iload 8, 2) := by decide +kernel
theorem dX1_goOn_164 : decode cX1_goOn 164 = .ok (.invokevirtual 102, 3) := by decide +kernel
theorem dX1_goOn_167 : decode cX1_goOn 167 = .ok (.goto 4, 3) := by decide +kernel
theorem dX1_goOn_170 : decode cX1_goOn 170 = .ok (.iconst (-1), 1) := by decide +kernel
theorem dX1_goOn_171 : decode cX1_goOn 171 = .ok (.istore 12, 2) := by decide +kernel
theorem dX1_goOn_173 : decode cX1_goOn 173 = .ok (.iload 11, 2) := by decide +kernel
theorem dX1_goOn_175 : decode cX1_goOn 175 = .ok (.iconst (-1), 1) := by decide +kernel
theorem dX1_goOn_176 : decode cX1_goOn 176 = .ok (.if_icmp .eq 9, 3) := by decide +kernel
theorem dX1_goOn_179 : decode cX1_goOn 179 = .ok (.iload 12, 2) := by decide +kernel
theorem dX1_goOn_181 : decode cX1_goOn 181 = .ok (.iconst (-1), 1) := by decide +kernel
theorem dX1_goOn_182 : decode cX1_goOn 182 = .ok (.if_icmp .ne 17, 3) := by decide +kernel
theorem dX1_goOn_185 : decode cX1_goOn 185 = .ok (.iload 11, 2) := by decide +kernel
theorem dX1_goOn_187 : decode cX1_goOn 187 = .ok (.iconst (-1), 1) := by decide +kernel
theorem dX1_goOn_188 : decode cX1_goOn 188 = .ok (.if_icmp .ne 8, 3) := by decide +kernel
theorem dX1_goOn_191 : decode cX1_goOn 191 = .ok (.iload 12, 2) := by decide +kernel
theorem dX1_goOn_193 : decode cX1_goOn 193 = .ok (.goto 5, 3) := by decide +kernel
theorem dX1_goOn_196 : decode cX1_goOn 196 = .ok (.iload 11, 2) := by decide +kernel
theorem dX1_goOn_198 : decode cX1_goOn 198 = .ok (.ireturn, 1) := by decide +kernel
theorem dX1_goOn_199 : decode cX1_goOn 199 = .ok (.iload 11, 2) := by decide +kernel
theorem dX1_goOn_201 : decode cX1_goOn 201 = .ok (.iload 12, 2) := by decide +kernel
theorem dX1_goOn_203 : decode cX1_goOn 203 = .ok (.invokestatic 111, 3) := by decide +kernel
theorem dX1_goOn_206 : decode cX1_goOn 206 = .ok (.ireturn, 1) := by decide +kernel
abbrev wcX1_goOn : List Cond := .code yX1_goOn cX1_goOn 13 (some .int) :: wsL_law
def jX1_goOn_185 (v11 : Int32) (v12 : Int32) (g : hs_S) : Option (Int32 × hs_S) :=
  if v11 = (-1 : Int32) then (
    some (v12, g)
  ) else (
    some (v11, g)
  )
def jX1_goOn_171 (v11 : Int32) (s0 : Int32) (g : hs_S) : Option (Int32 × hs_S) :=
  if v11 = (-1 : Int32) then (
    jX1_goOn_185 v11 s0 g
  ) else (
    if s0 = (-1 : Int32) then (
      jX1_goOn_185 v11 s0 g
    ) else (
      some ((if s0 < v11 then s0 else v11), g)
    )
  )
def jX1_goOn_146 (v0 : Nat) (v2 : Nat) (v3 : Int32) (v4 : Int32) (v8 : Int32) (s0 : Int32) (g : hs_S) : Option (Int32 × hs_S) :=
  hs_bd (fX4_isJump v4 g) fun r34 g33 =>
  if r34 = 0 then (
    jX1_goOn_171 s0 (-1 : Int32) g33
  ) else (
    if hs_kd g33 v2 = 6 then
    hs_bd (fX7_targetOf v2 v3 g33) fun r38 g37 =>
    if hs_kd g37 v0 = 1 then
    hs_bd (fX1_reach v0 r38 v8 g37) fun r42 g41 =>
    jX1_goOn_171 s0 r42 g41
    else none else none
  )
def jX1_goOn_129 (v0 : Nat) (v2 : Nat) (v3 : Int32) (v4 : Int32) (v8 : Int32) (v9 : Int32) (v10 : Int32) (g : hs_S) : Option (Int32 × hs_S) :=
  if v10 = 0 then (
    jX1_goOn_146 v0 v2 v3 v4 v8 (-1 : Int32) g
  ) else (
    if hs_kd g v0 = 1 then
    hs_bd (fX1_reach v0 v9 v8 g) fun r46 g45 =>
    jX1_goOn_146 v0 v2 v3 v4 v8 r46 g45
    else none
  )
def jX1_goOn_99 (v0 : Nat) (v2 : Nat) (v3 : Int32) (v4 : Int32) (v7 : Int32) (v8 : Int32) (v9 : Int32) (s0 : Int32) (g : hs_S) : Option (Int32 × hs_S) :=
  if v7 < 0 then (
    some (v3, g)
  ) else (
    if (20 : Int32) < v8 then (
      some (v3, g)
    ) else (
      if s0 = 0 then (
        jX1_goOn_129 v0 v2 v3 v4 v8 v9 s0 g
      ) else (
        if hs_kd g v2 = 6 then
        if v9 < (hs_I g v2 3) then (
          jX1_goOn_129 v0 v2 v3 v4 v8 v9 s0 g
        ) else (
          some (v3, g)
        )
        else none
      )
    )
  )
def jX1_goOn_35 (v0 : Nat) (v1 : Nat) (v2 : Nat) (v3 : Int32) (v4 : Int32) (s0 : Int32) (g : hs_S) : Option (Int32 × hs_S) :=
  hs_bd (fX4_takes v4 g) fun r11 g10 =>
  if hs_kd g10 v1 = 0 then
  hs_bd (fX0_method v1 s0 g10) fun r15 g14 =>
  if hs_kd g14 r15 = 6 then
  if hs_kd g14 v0 = 1 then
  if ¬ (hs_R g14 v0 0) = 0 then
  hs_bd (fX9_at ((hs_R g14 v0 0) - 1) v3 g14) fun r21 g20 =>
  hs_bd (fX4_gives v4 g20) fun r24 g23 =>
  if hs_kd g23 v2 = 6 then
  hs_bd (fX7_sizeAt v2 v3 g23) fun r28 g27 =>
  hs_bd (fX4_endsWay v4 g27) fun r31 g30 =>
  if r31 = 0 then (
    jX1_goOn_99 v0 v2 v3 v4 (r21 - (r11 + (hs_I g14 r15 4))) ((r21 - (r11 + (hs_I g14 r15 4))) + r24) (v3 + r28) (1 : Int32) g30
  ) else (
    jX1_goOn_99 v0 v2 v3 v4 (r21 - (r11 + (hs_I g14 r15 4))) ((r21 - (r11 + (hs_I g14 r15 4))) + r24) (v3 + r28) (0 : Int32) g30
  )
  else none else none else none else none else none
def fX1_goOn (v0 : Nat) (v1 : Nat) (v2 : Nat) (v3 : Int32) (g : hs_S) : Option (Int32 × hs_S) :=
  if hs_kd g v0 = 1 then
  if ¬ (hs_R g v0 1) = 0 then
  hs_bv (fX9_put ((hs_R g v0 1) - 1) v3 (1 : Int32) g) fun g3 =>
  if hs_kd g3 v2 = 6 then
  hs_bd (fX7_valueAt v2 v3 g3) fun r8 g7 =>
  if r8 = (184 : Int32) then (
    if hs_kd g7 v2 = 6 then
    hs_bd (fX7_valueAt v2 (v3 + (1 : Int32)) g7) fun r51 g50 =>
    jX1_goOn_35 v0 v1 v2 v3 r8 r51 g50
    else none
  ) else (
    jX1_goOn_35 v0 v1 v2 v3 r8 (-1 : Int32) g7
  )
  else none else none else none
abbrev rmX1_goOn : Room := { frames := 3, cells := 0, slots := 0, locals := 64 }
set_option maxHeartbeats 4000000 in
set_option maxRecDepth 100000 in
theorem wX1_goOn_j185 {p : Program} {l : Launch} {e : Env} {s : State} {m : MethodId} {args : Array Value} {below : List Frame} {meth : Method} {c : Code} {B : Nat} {D : va_G} {E : Nat → ClassId} (hX : hs_cx cX1_goOn (some .int) 13 RX1 wcX1_goOn p s m args meth c D E) {o : Int32 × hs_S}  {v11 : Int32} {v12 : Int32}   {g : hs_S} {H : Heap} {locs : List Loc} {ls : Array Slot} (hf : jX1_goOn_185 v11 v12 g = some o) (hP : hs_P B D E g H) (hS : hs_Sx B s.heap H locs) (hl : lv_has ls 13 [(11, .int v11), (12, .int v12)]) : W p l e rmX1_goOn s m args below meth c H locs 0 0 (MQ below (hs_Qi B D E o) args s 0 0 (hs_F B)) (F0 m 185 ls []) := by
  obtain ⟨hx, hb, hr, hml, hown, hts, hlocks, hK⟩ := id hX
  unfold jX1_goOn_185 at hf
  refine lv_iload hx hb dX1_goOn_185 (lv_at hl 0 rfl) ?_
  refine lv_iconst (v := -1) hx hb dX1_goOn_187 (by decide) ?_
  refine lv_icmp_ne (tgt := 196) hx hb dX1_goOn_188 (by decide) (fun hc => ?_) (fun hc => ?_)
  · replace hf := hs_f hf hc
    refine lv_iload hx hb dX1_goOn_196 (lv_at hl 0 rfl) ?_
    exact hs_iret hx hb hr hlocks rfl hK hP hS hf dX1_goOn_198
  · replace hf := hs_t hf hc
    refine lv_iload hx hb dX1_goOn_191 (lv_at hl 1 rfl) ?_
    refine lv_goto (tgt := 198) hx hb dX1_goOn_193 (by decide) ?_
    exact hs_iret hx hb hr hlocks rfl hK hP hS hf dX1_goOn_198

set_option maxHeartbeats 4000000 in
set_option maxRecDepth 100000 in
theorem wX1_goOn_j171 {p : Program} {l : Launch} {e : Env} {s : State} {m : MethodId} {args : Array Value} {below : List Frame} {meth : Method} {c : Code} {B : Nat} {D : va_G} {E : Nat → ClassId} (hX : hs_cx cX1_goOn (some .int) 13 RX1 wcX1_goOn p s m args meth c D E) {o : Int32 × hs_S}  {v11 : Int32} {s0 : Int32}   {g : hs_S} {H : Heap} {locs : List Loc} {ls : Array Slot} (hf : jX1_goOn_171 v11 s0 g = some o) (hP : hs_P B D E g H) (hS : hs_Sx B s.heap H locs) (hl : lv_has ls 13 [(11, .int v11)]) : W p l e rmX1_goOn s m args below meth c H locs 0 0 (MQ below (hs_Qi B D E o) args s 0 0 (hs_F B)) (F0 m 171 ls [.int s0]) := by
  obtain ⟨hx, hb, hr, hml, hown, hts, hlocks, hK⟩ := id hX
  unfold jX1_goOn_171 at hf
  refine lv_istore (lv' := [(12, .int s0), (11, .int v11)]) hx hb dX1_goOn_171 hl (by decide) rfl (fun ls hl => ?_)
  refine lv_iload hx hb dX1_goOn_173 (lv_at hl 1 rfl) ?_
  refine lv_iconst (v := -1) hx hb dX1_goOn_175 (by decide) ?_
  refine lv_icmp_eq (tgt := 185) hx hb dX1_goOn_176 (by decide) (fun hc => ?_) (fun hc => ?_)
  · replace hf := hs_t hf hc
    exact wX1_goOn_j185 hX hf hP hS (lv_sub hl [1, 0] rfl)
  · replace hf := hs_f hf hc
    refine lv_iload hx hb dX1_goOn_179 (lv_at hl 0 rfl) ?_
    refine lv_iconst (v := -1) hx hb dX1_goOn_181 (by decide) ?_
    refine lv_icmp_ne (tgt := 199) hx hb dX1_goOn_182 (by decide) (fun hc => ?_) (fun hc => ?_)
    · replace hf := hs_f hf hc
      refine lv_iload hx hb dX1_goOn_199 (lv_at hl 1 rfl) ?_
      refine lv_iload hx hb dX1_goOn_201 (lv_at hl 0 rfl) ?_
      refine va_mmin hx hb (hml.trans hl.1.symm) hown (hts _ (List.mem_cons_of_mem _ wq358)) (hts _ (List.mem_cons_of_mem _ wq359)) (hts _ (List.mem_cons_of_mem _ wq360)) (hts _ (List.mem_cons_of_mem _ wq361)) (Nat.le_of_ble_eq_true rfl) (Nat.le_of_ble_eq_true rfl) (Nat.le_of_ble_eq_true rfl) (Nat.le_of_ble_eq_true rfl) dX1_goOn_203 ?_
      exact hs_iret hx hb hr hlocks rfl hK hP hS hf dX1_goOn_206
    · replace hf := hs_t hf hc
      exact wX1_goOn_j185 hX hf hP hS (lv_sub hl [1, 0] rfl)

set_option maxHeartbeats 4000000 in
set_option maxRecDepth 100000 in
theorem wX1_goOn_j146 {p : Program} {l : Launch} {e : Env} {s : State} {m : MethodId} {args : Array Value} {below : List Frame} {meth : Method} {c : Code} {B : Nat} {D : va_G} {E : Nat → ClassId} (hX : hs_cx cX1_goOn (some .int) 13 RX1 wcX1_goOn p s m args meth c D E) {o : Int32 × hs_S}  {v0 : Nat} {v2 : Nat} {v3 : Int32} {v4 : Int32} {v8 : Int32} {s0 : Int32}   {g : hs_S} {H : Heap} {locs : List Loc} {ls : Array Slot} (hf : jX1_goOn_146 v0 v2 v3 v4 v8 s0 g = some o) (hP : hs_P B D E g H) (hS : hs_Sx B s.heap H locs) (hl : lv_has ls 13 [(0, .ref (B + v0)), (2, .ref (B + v2)), (3, .int v3), (4, .int v4), (8, .int v8)]) : W p l e rmX1_goOn s m args below meth c H locs 0 0 (MQ below (hs_Qi B D E o) args s 0 0 (hs_F B)) (F0 m 146 ls [.int s0]) := by
  obtain ⟨hx, hb, hr, hml, hown, hts, hlocks, hK⟩ := id hX
  unfold jX1_goOn_146 at hf
  refine lv_istore (lv' := [(11, .int s0), (0, .ref (B + v0)), (2, .ref (B + v2)), (3, .int v3), (4, .int v4), (8, .int v8)]) hx hb dX1_goOn_146 hl (by decide) rfl (fun ls hl => ?_)
  refine lv_iload hx hb dX1_goOn_148 (lv_at hl 4 rfl) ?_
  obtain ⟨r34, g33, h35, hf⟩ := hs_bd_some hf
  refine hs_calli (va_runS (As := [.int v4]) (rest := []) ⟨hx, hb, hml, hown, hts⟩ (ctX4_isJump l B D E v4 g _ h35) (va_cwS 1 hts (hs_gS (fun _ h => List.mem_cons_of_mem _ h) wq375 wq307 wq258 wq308) rfl rfl rfl (by decide +kernel) ⟨Nat.le_of_ble_eq_true rfl, Nat.le_of_ble_eq_true rfl⟩) (hs_pre hP hK) rfl rfl hl.1 rfl (lv_room (Nat.le_of_ble_eq_true rfl)) dX1_goOn_150 ⟨(Nat.le_of_ble_eq_true rfl), (Nat.le_of_ble_eq_true rfl)⟩) hS (fun H locs hP hS => ?_)
  refine lv_if_eq (tgt := 170) hx hb dX1_goOn_153 (by decide) (fun hc => ?_) (fun hc => ?_)
  · replace hf := hs_t hf hc
    refine lv_iconst (v := -1) hx hb dX1_goOn_170 (by decide) ?_
    exact wX1_goOn_j171 hX hf hP hS (lv_sub hl [0] rfl)
  · replace hf := hs_f hf hc
    refine lv_aload_n hx hb dX1_goOn_156 rfl (lv_at hl 1 rfl) ?_
    refine lv_aload_n hx hb dX1_goOn_157 rfl (lv_at hl 2 rfl) ?_
    refine lv_iload_n hx hb dX1_goOn_158 rfl (lv_at hl 3 rfl) ?_
    obtain ⟨h36, hf⟩ := hs_ck hf
    obtain ⟨r38, g37, h39, hf⟩ := hs_bd_some hf
    refine hs_calli (va_runV (As := [.int v3]) (rest := [.ref (B + v0)]) ⟨hx, hb, hml, hown, hts⟩ (ctX7_targetOf l B D E v2 v3 g33 _ h39) (cwV 1 hts (hs_gV (fun _ h => List.mem_cons_of_mem _ h) wq376 wq310 wq311 wq43 wq312) rfl rfl rfl (by decide +kernel) ⟨Nat.le_of_ble_eq_true rfl, Nat.le_of_ble_eq_true rfl⟩) (hs_preV (r := (RX7, TX7, 11)) hP hK h36 (by decide) rfl) rfl rfl hl.1 rfl (lv_room (Nat.le_of_ble_eq_true rfl)) dX1_goOn_159 ⟨(Nat.le_of_ble_eq_true rfl), (Nat.le_of_ble_eq_true rfl)⟩) hS (fun H locs hP hS => ?_)
    refine lv_iload hx hb dX1_goOn_162 (lv_at hl 5 rfl) ?_
    obtain ⟨h40, hf⟩ := hs_ck hf
    obtain ⟨r42, g41, h43, hf⟩ := hs_bd_some hf
    refine hs_calli (va_runV (As := [.int r38, .int v8]) (rest := []) ⟨hx, hb, hml, hown, hts⟩ (ctX1_reach l B D E v0 r38 v8 g37 _ h43) (cwV 2 hts (hs_gV (fun _ h => List.mem_cons_of_mem _ h) wq371 wq372 wq373 wq75 wq374) rfl rfl rfl (by decide +kernel) ⟨Nat.le_of_ble_eq_true rfl, Nat.le_of_ble_eq_true rfl⟩) (hs_preV (r := (RX1, TX1, 3)) hP hK h40 (by decide) rfl) rfl rfl hl.1 rfl (lv_room (Nat.le_of_ble_eq_true rfl)) dX1_goOn_164 ⟨(Nat.le_of_ble_eq_true rfl), (Nat.le_of_ble_eq_true rfl)⟩) hS (fun H locs hP hS => ?_)
    refine lv_goto (tgt := 171) hx hb dX1_goOn_167 (by decide) ?_
    exact wX1_goOn_j171 hX hf hP hS (lv_sub hl [0] rfl)

set_option maxHeartbeats 4000000 in
set_option maxRecDepth 100000 in
theorem wX1_goOn_j129 {p : Program} {l : Launch} {e : Env} {s : State} {m : MethodId} {args : Array Value} {below : List Frame} {meth : Method} {c : Code} {B : Nat} {D : va_G} {E : Nat → ClassId} (hX : hs_cx cX1_goOn (some .int) 13 RX1 wcX1_goOn p s m args meth c D E) {o : Int32 × hs_S}  {v0 : Nat} {v2 : Nat} {v3 : Int32} {v4 : Int32} {v8 : Int32} {v9 : Int32} {v10 : Int32}   {g : hs_S} {H : Heap} {locs : List Loc} {ls : Array Slot} (hf : jX1_goOn_129 v0 v2 v3 v4 v8 v9 v10 g = some o) (hP : hs_P B D E g H) (hS : hs_Sx B s.heap H locs) (hl : lv_has ls 13 [(0, .ref (B + v0)), (2, .ref (B + v2)), (3, .int v3), (4, .int v4), (8, .int v8), (9, .int v9), (10, .int v10)]) : W p l e rmX1_goOn s m args below meth c H locs 0 0 (MQ below (hs_Qi B D E o) args s 0 0 (hs_F B)) (F0 m 129 ls []) := by
  obtain ⟨hx, hb, hr, hml, hown, hts, hlocks, hK⟩ := id hX
  unfold jX1_goOn_129 at hf
  refine lv_iload hx hb dX1_goOn_129 (lv_at hl 6 rfl) ?_
  refine lv_if_eq (tgt := 145) hx hb dX1_goOn_131 (by decide) (fun hc => ?_) (fun hc => ?_)
  · replace hf := hs_t hf hc
    refine lv_iconst (v := -1) hx hb dX1_goOn_145 (by decide) ?_
    exact wX1_goOn_j146 hX hf hP hS (lv_sub hl [0, 1, 2, 3, 4] rfl)
  · replace hf := hs_f hf hc
    refine lv_aload_n hx hb dX1_goOn_134 rfl (lv_at hl 0 rfl) ?_
    refine lv_iload hx hb dX1_goOn_135 (lv_at hl 5 rfl) ?_
    refine lv_iload hx hb dX1_goOn_137 (lv_at hl 4 rfl) ?_
    obtain ⟨h44, hf⟩ := hs_ck hf
    obtain ⟨r46, g45, h47, hf⟩ := hs_bd_some hf
    refine hs_calli (va_runV (As := [.int v9, .int v8]) (rest := []) ⟨hx, hb, hml, hown, hts⟩ (ctX1_reach l B D E v0 v9 v8 g _ h47) (cwV 2 hts (hs_gV (fun _ h => List.mem_cons_of_mem _ h) wq371 wq372 wq373 wq75 wq374) rfl rfl rfl (by decide +kernel) ⟨Nat.le_of_ble_eq_true rfl, Nat.le_of_ble_eq_true rfl⟩) (hs_preV (r := (RX1, TX1, 3)) hP hK h44 (by decide) rfl) rfl rfl hl.1 rfl (lv_room (Nat.le_of_ble_eq_true rfl)) dX1_goOn_139 ⟨(Nat.le_of_ble_eq_true rfl), (Nat.le_of_ble_eq_true rfl)⟩) hS (fun H locs hP hS => ?_)
    refine lv_goto (tgt := 146) hx hb dX1_goOn_142 (by decide) ?_
    exact wX1_goOn_j146 hX hf hP hS (lv_sub hl [0, 1, 2, 3, 4] rfl)

set_option maxHeartbeats 4000000 in
set_option maxRecDepth 100000 in
theorem wX1_goOn_j99 {p : Program} {l : Launch} {e : Env} {s : State} {m : MethodId} {args : Array Value} {below : List Frame} {meth : Method} {c : Code} {B : Nat} {D : va_G} {E : Nat → ClassId} (hX : hs_cx cX1_goOn (some .int) 13 RX1 wcX1_goOn p s m args meth c D E) {o : Int32 × hs_S}  {v0 : Nat} {v2 : Nat} {v3 : Int32} {v4 : Int32} {v7 : Int32} {v8 : Int32} {v9 : Int32} {s0 : Int32}   {g : hs_S} {H : Heap} {locs : List Loc} {ls : Array Slot} (hf : jX1_goOn_99 v0 v2 v3 v4 v7 v8 v9 s0 g = some o) (hP : hs_P B D E g H) (hS : hs_Sx B s.heap H locs) (hl : lv_has ls 13 [(0, .ref (B + v0)), (2, .ref (B + v2)), (3, .int v3), (4, .int v4), (7, .int v7), (8, .int v8), (9, .int v9)]) : W p l e rmX1_goOn s m args below meth c H locs 0 0 (MQ below (hs_Qi B D E o) args s 0 0 (hs_F B)) (F0 m 99 ls [.int s0]) := by
  obtain ⟨hx, hb, hr, hml, hown, hts, hlocks, hK⟩ := id hX
  unfold jX1_goOn_99 at hf
  refine lv_istore (lv' := [(10, .int s0), (0, .ref (B + v0)), (2, .ref (B + v2)), (3, .int v3), (4, .int v4), (7, .int v7), (8, .int v8), (9, .int v9)]) hx hb dX1_goOn_99 hl (by decide) rfl (fun ls hl => ?_)
  refine lv_iload hx hb dX1_goOn_101 (lv_at hl 5 rfl) ?_
  refine lv_if_lt (tgt := 127) hx hb dX1_goOn_103 (by decide) (fun hc => ?_) (fun hc => ?_)
  · replace hf := hs_t hf hc
    refine lv_iload_n hx hb dX1_goOn_127 rfl (lv_at hl 3 rfl) ?_
    exact hs_iret hx hb hr hlocks rfl hK hP hS hf dX1_goOn_128
  · replace hf := hs_f hf hc
    refine lv_iload hx hb dX1_goOn_106 (lv_at hl 6 rfl) ?_
    refine lv_bipush (v := 20) hx hb dX1_goOn_108 (by decide) ?_
    refine lv_icmp_gt (tgt := 127) hx hb dX1_goOn_110 (by decide) (fun hc => ?_) (fun hc => ?_)
    · replace hf := hs_t hf hc
      refine lv_iload_n hx hb dX1_goOn_127 rfl (lv_at hl 3 rfl) ?_
      exact hs_iret hx hb hr hlocks rfl hK hP hS hf dX1_goOn_128
    · replace hf := hs_f hf hc
      refine lv_iload hx hb dX1_goOn_113 (lv_at hl 0 rfl) ?_
      refine lv_if_eq (tgt := 129) hx hb dX1_goOn_115 (by decide) (fun hc => ?_) (fun hc => ?_)
      · replace hf := hs_t hf hc
        exact wX1_goOn_j129 hX hf hP hS (lv_sub hl [1, 2, 3, 4, 6, 7, 0] rfl)
      · replace hf := hs_f hf hc
        refine lv_iload hx hb dX1_goOn_118 (lv_at hl 7 rfl) ?_
        refine lv_aload_n hx hb dX1_goOn_120 rfl (lv_at hl 2 rfl) ?_
        obtain ⟨h48, hf⟩ := hs_ck hf
        refine hs_geti (C := RX7) (T := TX7) (N := 11) hx hb hts (fun w h => List.mem_cons_of_mem _ (inlX7 w h)) hown hK.1 hP h48 (by decide) rfl 3 (by decide) (hts _ (List.mem_cons_of_mem _ wq343)) (fun _ h => h) rfl dX1_goOn_121 ?_
        refine lv_icmp_lt (tgt := 129) hx hb dX1_goOn_124 (by decide) (fun hc => ?_) (fun hc => ?_)
        · replace hf := hs_t hf hc
          exact wX1_goOn_j129 hX hf hP hS (lv_sub hl [1, 2, 3, 4, 6, 7, 0] rfl)
        · replace hf := hs_f hf hc
          refine lv_iload_n hx hb dX1_goOn_127 rfl (lv_at hl 3 rfl) ?_
          exact hs_iret hx hb hr hlocks rfl hK hP hS hf dX1_goOn_128

set_option maxHeartbeats 4000000 in
set_option maxRecDepth 100000 in
theorem wX1_goOn_j35 {p : Program} {l : Launch} {e : Env} {s : State} {m : MethodId} {args : Array Value} {below : List Frame} {meth : Method} {c : Code} {B : Nat} {D : va_G} {E : Nat → ClassId} (hX : hs_cx cX1_goOn (some .int) 13 RX1 wcX1_goOn p s m args meth c D E) {o : Int32 × hs_S}  {v0 : Nat} {v1 : Nat} {v2 : Nat} {v3 : Int32} {v4 : Int32} {s0 : Int32}   {g : hs_S} {H : Heap} {locs : List Loc} {ls : Array Slot} (hf : jX1_goOn_35 v0 v1 v2 v3 v4 s0 g = some o) (hP : hs_P B D E g H) (hS : hs_Sx B s.heap H locs) (hl : lv_has ls 13 [(0, .ref (B + v0)), (1, .ref (B + v1)), (2, .ref (B + v2)), (3, .int v3), (4, .int v4)]) : W p l e rmX1_goOn s m args below meth c H locs 0 0 (MQ below (hs_Qi B D E o) args s 0 0 (hs_F B)) (F0 m 35 ls [.int s0]) := by
  obtain ⟨hx, hb, hr, hml, hown, hts, hlocks, hK⟩ := id hX
  unfold jX1_goOn_35 at hf
  refine lv_istore (lv' := [(5, .int s0), (0, .ref (B + v0)), (1, .ref (B + v1)), (2, .ref (B + v2)), (3, .int v3), (4, .int v4)]) hx hb dX1_goOn_35 hl (by decide) rfl (fun ls hl => ?_)
  refine lv_iload hx hb dX1_goOn_37 (lv_at hl 5 rfl) ?_
  obtain ⟨r11, g10, h12, hf⟩ := hs_bd_some hf
  refine hs_calli (va_runS (As := [.int v4]) (rest := []) ⟨hx, hb, hml, hown, hts⟩ (ctX4_takes l B D E v4 g _ h12) (va_cwS 1 hts (hs_gS (fun _ h => List.mem_cons_of_mem _ h) wq363 wq364 wq258 wq365) rfl rfl rfl (by decide +kernel) ⟨Nat.le_of_ble_eq_true rfl, Nat.le_of_ble_eq_true rfl⟩) (hs_pre hP hK) rfl rfl hl.1 rfl (lv_room (Nat.le_of_ble_eq_true rfl)) dX1_goOn_39 ⟨(Nat.le_of_ble_eq_true rfl), (Nat.le_of_ble_eq_true rfl)⟩) hS (fun H locs hP hS => ?_)
  refine lv_aload_n hx hb dX1_goOn_42 rfl (lv_at hl 2 rfl) ?_
  refine lv_iload hx hb dX1_goOn_43 (lv_at hl 0 rfl) ?_
  obtain ⟨h13, hf⟩ := hs_ck hf
  obtain ⟨r15, g14, h16, hf⟩ := hs_bd_some hf
  refine hs_callr (va_runV (As := [.int s0]) (rest := [.int r11]) ⟨hx, hb, hml, hown, hts⟩ (ctX0_method l B D E v1 s0 g10 _ h16) (cwV 1 hts (hs_gV (fun _ h => List.mem_cons_of_mem _ h) wq336 wq108 wq109 wq15 wq110) rfl rfl rfl (by decide +kernel) ⟨Nat.le_of_ble_eq_true rfl, Nat.le_of_ble_eq_true rfl⟩) (hs_preV (r := (RX0, TX0, 5)) hP hK h13 (by decide) rfl) rfl rfl hl.1 rfl (lv_room (Nat.le_of_ble_eq_true rfl)) dX1_goOn_45 ⟨(Nat.le_of_ble_eq_true rfl), (Nat.le_of_ble_eq_true rfl)⟩) hS (fun H locs hP hS => ?_)
  obtain ⟨h17, hf⟩ := hs_ck hf
  refine hs_geti (C := RX7) (T := TX7) (N := 11) hx hb hts (fun w h => List.mem_cons_of_mem _ (inlX7 w h)) hown hK.1 hP h17 (by decide) rfl 4 (by decide) (hts _ (List.mem_cons_of_mem _ wq357)) (fun _ h => h) rfl dX1_goOn_48 ?_
  refine lv_iadd hx hb dX1_goOn_51 ?_
  refine lv_istore (lv' := [(6, .int (r11 + (hs_I g14 r15 4))), (5, .int s0), (0, .ref (B + v0)), (1, .ref (B + v1)), (2, .ref (B + v2)), (3, .int v3), (4, .int v4)]) hx hb dX1_goOn_52 hl (by decide) rfl (fun ls hl => ?_)
  refine lv_aload_n hx hb dX1_goOn_54 rfl (lv_at hl 2 rfl) ?_
  obtain ⟨h18, hf⟩ := hs_ck hf
  obtain ⟨h19, hf⟩ := hs_ck hf
  refine hs_getr (C := RX1) (T := TX1) (N := 3) hx hb hts (fun w h => List.mem_cons_of_mem _ (inlX1 w h)) hown hK.1 hP h18 (by decide) rfl 0 (by decide) (hts _ (List.mem_cons_of_mem _ wq80)) (fun _ h => h) rfl h19 dX1_goOn_55 ?_
  refine lv_iload_n hx hb dX1_goOn_58 rfl (lv_at hl 5 rfl) ?_
  obtain ⟨r21, g20, h22, hf⟩ := hs_bd_some hf
  refine hs_calli (va_runS (As := [.ref (B + ((hs_R g14 v0 0) - 1)), .int v3]) (rest := []) ⟨hx, hb, hml, hown, hts⟩ (ctX9_at l B D E ((hs_R g14 v0 0) - 1) v3 g14 _ h22) (va_cwS 2 hts (hs_gS (fun _ h => List.mem_cons_of_mem _ h) wq352 wq193 wq68 wq194) rfl rfl rfl (by decide +kernel) ⟨Nat.le_of_ble_eq_true rfl, Nat.le_of_ble_eq_true rfl⟩) (hs_pre hP hK) rfl rfl hl.1 rfl (lv_room (Nat.le_of_ble_eq_true rfl)) dX1_goOn_59 ⟨(Nat.le_of_ble_eq_true rfl), (Nat.le_of_ble_eq_true rfl)⟩) hS (fun H locs hP hS => ?_)
  refine lv_iload hx hb dX1_goOn_62 (lv_at hl 0 rfl) ?_
  refine lv_isub hx hb dX1_goOn_64 ?_
  refine lv_istore (lv' := [(7, .int (r21 - (r11 + (hs_I g14 r15 4)))), (6, .int (r11 + (hs_I g14 r15 4))), (5, .int s0), (0, .ref (B + v0)), (1, .ref (B + v1)), (2, .ref (B + v2)), (3, .int v3), (4, .int v4)]) hx hb dX1_goOn_65 hl (by decide) rfl (fun ls hl => ?_)
  refine lv_iload hx hb dX1_goOn_67 (lv_at hl 0 rfl) ?_
  refine lv_iload hx hb dX1_goOn_69 (lv_at hl 7 rfl) ?_
  obtain ⟨r24, g23, h25, hf⟩ := hs_bd_some hf
  refine hs_calli (va_runS (As := [.int v4]) (rest := [.int (r21 - (r11 + (hs_I g14 r15 4)))]) ⟨hx, hb, hml, hown, hts⟩ (ctX4_gives l B D E v4 g20 _ h25) (va_cwS 1 hts (hs_gS (fun _ h => List.mem_cons_of_mem _ h) wq366 wq367 wq258 wq368) rfl rfl rfl (by decide +kernel) ⟨Nat.le_of_ble_eq_true rfl, Nat.le_of_ble_eq_true rfl⟩) (hs_pre hP hK) rfl rfl hl.1 rfl (lv_room (Nat.le_of_ble_eq_true rfl)) dX1_goOn_71 ⟨(Nat.le_of_ble_eq_true rfl), (Nat.le_of_ble_eq_true rfl)⟩) hS (fun H locs hP hS => ?_)
  refine lv_iadd hx hb dX1_goOn_74 ?_
  refine lv_istore (lv' := [(8, .int ((r21 - (r11 + (hs_I g14 r15 4))) + r24)), (7, .int (r21 - (r11 + (hs_I g14 r15 4)))), (6, .int (r11 + (hs_I g14 r15 4))), (5, .int s0), (0, .ref (B + v0)), (1, .ref (B + v1)), (2, .ref (B + v2)), (3, .int v3), (4, .int v4)]) hx hb dX1_goOn_75 hl (by decide) rfl (fun ls hl => ?_)
  refine lv_iload_n hx hb dX1_goOn_77 rfl (lv_at hl 7 rfl) ?_
  refine lv_aload_n hx hb dX1_goOn_78 rfl (lv_at hl 6 rfl) ?_
  refine lv_iload_n hx hb dX1_goOn_79 rfl (lv_at hl 7 rfl) ?_
  obtain ⟨h26, hf⟩ := hs_ck hf
  obtain ⟨r28, g27, h29, hf⟩ := hs_bd_some hf
  refine hs_calli (va_runV (As := [.int v3]) (rest := [.int v3]) ⟨hx, hb, hml, hown, hts⟩ (ctX7_sizeAt l B D E v2 v3 g23 _ h29) (cwV 1 hts (hs_gV (fun _ h => List.mem_cons_of_mem _ h) wq369 wq245 wq246 wq43 wq247) rfl rfl rfl (by decide +kernel) ⟨Nat.le_of_ble_eq_true rfl, Nat.le_of_ble_eq_true rfl⟩) (hs_preV (r := (RX7, TX7, 11)) hP hK h26 (by decide) rfl) rfl rfl hl.1 rfl (lv_room (Nat.le_of_ble_eq_true rfl)) dX1_goOn_80 ⟨(Nat.le_of_ble_eq_true rfl), (Nat.le_of_ble_eq_true rfl)⟩) hS (fun H locs hP hS => ?_)
  refine lv_iadd hx hb dX1_goOn_83 ?_
  refine lv_istore (lv' := [(9, .int (v3 + r28)), (8, .int ((r21 - (r11 + (hs_I g14 r15 4))) + r24)), (7, .int (r21 - (r11 + (hs_I g14 r15 4)))), (6, .int (r11 + (hs_I g14 r15 4))), (5, .int s0), (0, .ref (B + v0)), (1, .ref (B + v1)), (2, .ref (B + v2)), (3, .int v3), (4, .int v4)]) hx hb dX1_goOn_84 hl (by decide) rfl (fun ls hl => ?_)
  refine lv_iload hx hb dX1_goOn_86 (lv_at hl 9 rfl) ?_
  obtain ⟨r31, g30, h32, hf⟩ := hs_bd_some hf
  refine hs_calli (va_runS (As := [.int v4]) (rest := []) ⟨hx, hb, hml, hown, hts⟩ (ctX4_endsWay l B D E v4 g27 _ h32) (va_cwS 1 hts (hs_gS (fun _ h => List.mem_cons_of_mem _ h) wq370 wq319 wq258 wq320) rfl rfl rfl (by decide +kernel) ⟨Nat.le_of_ble_eq_true rfl, Nat.le_of_ble_eq_true rfl⟩) (hs_pre hP hK) rfl rfl hl.1 rfl (lv_room (Nat.le_of_ble_eq_true rfl)) dX1_goOn_88 ⟨(Nat.le_of_ble_eq_true rfl), (Nat.le_of_ble_eq_true rfl)⟩) hS (fun H locs hP hS => ?_)
  refine lv_if_ne (tgt := 98) hx hb dX1_goOn_91 (by decide) (fun hc => ?_) (fun hc => ?_)
  · replace hf := hs_f hf hc
    refine lv_iconst (v := 0) hx hb dX1_goOn_98 (by decide) ?_
    exact wX1_goOn_j99 hX hf hP hS (lv_sub hl [5, 7, 8, 9, 2, 1, 0] rfl)
  · replace hf := hs_t hf hc
    refine lv_iconst (v := 1) hx hb dX1_goOn_94 (by decide) ?_
    refine lv_goto (tgt := 99) hx hb dX1_goOn_95 (by decide) ?_
    exact wX1_goOn_j99 hX hf hP hS (lv_sub hl [5, 7, 8, 9, 2, 1, 0] rfl)

set_option maxHeartbeats 4000000 in
set_option maxRecDepth 100000 in
theorem ctX1_goOn (l : Launch) (B : Nat) (D : va_G) (E : Nat → ClassId) (v0 : Nat) (v1 : Nat) (v2 : Nat) (v3 : Int32) (g : hs_S) (o : Int32 × hs_S) (hf : fX1_goOn v0 v1 v2 v3 g = some o) : Met l yX1_goOn wcX1_goOn rmX1_goOn (hs_Pc B D E g [.ref (B + v0), .ref (B + v1), .ref (B + v2), .int v3]) (hs_Qi B D E o) (0) (0) (hs_F B) := by
  refine Met.ofW (cc := cX1_goOn) (maxL := 13) (ret := (some .int)) (by decide) rfl ?_
  intro p e s m args below meth c s₁ Bd hml hv
  obtain ⟨rfl, hP, hK⟩ := hv
  have hx := Bd.exec
  have hb := Bd.bytes
  have hr := Bd.returns
  have hts := atoms_spec (ws := wcX1_goOn) Bd.pre
  have hown : s.vm.findClass RX1 = some m.cls := findClass_of_methodNamed Bd.named
  have hlocks := Bd.notSynchronized
  have hS : hs_Sx B s.heap s.heap [] := va_S.rf
  have hX : hs_cx cX1_goOn (some .int) 13 RX1 wcX1_goOn p s m (List.toArray [.ref (B + v0), .ref (B + v1), .ref (B + v2), .int v3]) meth c D E := ⟨hx, hb, hr, hml, hown, hts, hlocks, hK⟩
  have hl := lv_entry ([.ref (B + v0), .ref (B + v1), .ref (B + v2), .int v3]) (n := 13) (Nat.le_of_ble_eq_true rfl)
  rw [lg_entry_eq]
  generalize (lg_sl ([.ref (B + v0), .ref (B + v1), .ref (B + v2), .int v3]) ++ List.replicate (13 - (lg_sl ([.ref (B + v0), .ref (B + v1), .ref (B + v2), .int v3])).length) Slot.unset).toArray = ls at hl ⊢
  have hl : lv_has ls 13 [(0, .ref (B + v0)), (1, .ref (B + v1)), (2, .ref (B + v2)), (3, .int v3)] := hl
  have hP : hs_P B D E g s.heap := hP
  unfold fX1_goOn at hf
  refine lv_aload_n hx hb dX1_goOn_0 rfl (lv_at hl 0 rfl) ?_
  obtain ⟨h1, hf⟩ := hs_ck hf
  obtain ⟨h2, hf⟩ := hs_ck hf
  refine hs_getr (C := RX1) (T := TX1) (N := 3) hx hb hts (fun w h => List.mem_cons_of_mem _ (inlX1 w h)) hown hK.1 hP h1 (by decide) rfl 1 (by decide) (hts _ (List.mem_cons_of_mem _ wq81)) (fun _ h => h) rfl h2 dX1_goOn_1 ?_
  refine lv_iload_n hx hb dX1_goOn_4 rfl (lv_at hl 3 rfl) ?_
  refine lv_iconst (v := 1) hx hb dX1_goOn_5 (by decide) ?_
  obtain ⟨g3, h5, hf⟩ := hs_bv_some hf
  refine hs_callv (va_runS (As := [.ref (B + ((hs_R g v0 1) - 1)), .int v3, .int (1 : Int32)]) (rest := []) ⟨hx, hb, hml, hown, hts⟩ (ctX9_put l B D E ((hs_R g v0 1) - 1) v3 (1 : Int32) g _ h5) (va_cwS 3 hts (hs_gS (fun _ h => List.mem_cons_of_mem _ h) wq346 wq67 wq68 wq69) rfl rfl rfl (by decide +kernel) ⟨Nat.le_of_ble_eq_true rfl, Nat.le_of_ble_eq_true rfl⟩) (hs_pre hP hK) rfl rfl hl.1 rfl (lv_room (Nat.le_of_ble_eq_true rfl)) dX1_goOn_6 ⟨(Nat.le_of_ble_eq_true rfl), (Nat.le_of_ble_eq_true rfl)⟩) hS (fun H locs hP hS => ?_)
  refine lv_aload_n hx hb dX1_goOn_9 rfl (lv_at hl 2 rfl) ?_
  refine lv_iload_n hx hb dX1_goOn_10 rfl (lv_at hl 3 rfl) ?_
  obtain ⟨h6, hf⟩ := hs_ck hf
  obtain ⟨r8, g7, h9, hf⟩ := hs_bd_some hf
  refine hs_calli (va_runV (As := [.int v3]) (rest := []) ⟨hx, hb, hml, hown, hts⟩ (ctX7_valueAt l B D E v2 v3 g3 _ h9) (cwV 1 hts (hs_gV (fun _ h => List.mem_cons_of_mem _ h) wq362 wq249 wq250 wq43 wq251) rfl rfl rfl (by decide +kernel) ⟨Nat.le_of_ble_eq_true rfl, Nat.le_of_ble_eq_true rfl⟩) (hs_preV (r := (RX7, TX7, 11)) hP hK h6 (by decide) rfl) rfl rfl hl.1 rfl (lv_room (Nat.le_of_ble_eq_true rfl)) dX1_goOn_11 ⟨(Nat.le_of_ble_eq_true rfl), (Nat.le_of_ble_eq_true rfl)⟩) hS (fun H locs hP hS => ?_)
  refine lv_istore (lv' := [(4, .int r8), (0, .ref (B + v0)), (1, .ref (B + v1)), (2, .ref (B + v2)), (3, .int v3)]) hx hb dX1_goOn_14 hl (by decide) rfl (fun ls hl => ?_)
  refine lv_iload hx hb dX1_goOn_16 (lv_at hl 0 rfl) ?_
  refine lv_sipush (v := 184) hx hb dX1_goOn_18 (by decide) ?_
  refine lv_icmp_ne (tgt := 34) hx hb dX1_goOn_21 (by decide) (fun hc => ?_) (fun hc => ?_)
  · replace hf := hs_f hf hc
    refine lv_iconst (v := -1) hx hb dX1_goOn_34 (by decide) ?_
    exact wX1_goOn_j35 hX hf hP hS (lv_sub hl [1, 2, 3, 4, 0] rfl)
  · replace hf := hs_t hf hc
    refine lv_aload_n hx hb dX1_goOn_24 rfl (lv_at hl 3 rfl) ?_
    refine lv_iload_n hx hb dX1_goOn_25 rfl (lv_at hl 4 rfl) ?_
    refine lv_iconst (v := 1) hx hb dX1_goOn_26 (by decide) ?_
    refine lv_iadd hx hb dX1_goOn_27 ?_
    obtain ⟨h49, hf⟩ := hs_ck hf
    obtain ⟨r51, g50, h52, hf⟩ := hs_bd_some hf
    refine hs_calli (va_runV (As := [.int (v3 + (1 : Int32))]) (rest := []) ⟨hx, hb, hml, hown, hts⟩ (ctX7_valueAt l B D E v2 (v3 + (1 : Int32)) g7 _ h52) (cwV 1 hts (hs_gV (fun _ h => List.mem_cons_of_mem _ h) wq362 wq249 wq250 wq43 wq251) rfl rfl rfl (by decide +kernel) ⟨Nat.le_of_ble_eq_true rfl, Nat.le_of_ble_eq_true rfl⟩) (hs_preV (r := (RX7, TX7, 11)) hP hK h49 (by decide) rfl) rfl rfl hl.1 rfl (lv_room (Nat.le_of_ble_eq_true rfl)) dX1_goOn_28 ⟨(Nat.le_of_ble_eq_true rfl), (Nat.le_of_ble_eq_true rfl)⟩) hS (fun H locs hP hS => ?_)
    refine lv_goto (tgt := 35) hx hb dX1_goOn_31 (by decide) ?_
    exact wX1_goOn_j35 hX hf hP hS (lv_sub hl [1, 2, 3, 4, 0] rfl)

theorem dX1_greatest_0 : decode cX1_greatest 0 = .ok (.iconst 0, 1) := by decide +kernel
theorem dX1_greatest_1 : decode cX1_greatest 1 = .ok (.istore_n 1, 1) := by decide +kernel
theorem dX1_greatest_2 : decode cX1_greatest 2 = .ok (.iconst 0, 1) := by decide +kernel
theorem dX1_greatest_3 : decode cX1_greatest 3 = .ok (.istore_n 2, 1) := by decide +kernel
theorem dX1_greatest_4 : decode cX1_greatest 4 = .ok (.iload_n 2, 1) := by decide +kernel
theorem dX1_greatest_5 : decode cX1_greatest 5 = .ok (.sipush 2000, 3) := by decide +kernel
theorem dX1_greatest_8 : decode cX1_greatest 8 = .ok (.if_icmp .ge 22, 3) := by decide +kernel
theorem dX1_greatest_11 : decode cX1_greatest 11 = .ok (.iload_n 1, 1) := by decide +kernel
theorem dX1_greatest_12 : decode cX1_greatest 12 = .ok (.aload_n 0, 1) := by decide +kernel
theorem dX1_greatest_13 : decode cX1_greatest 13 = .ok (.getfield 9, 3) := by decide +kernel
theorem dX1_greatest_16 : decode cX1_greatest 16 = .ok (.iload_n 2, 1) := by decide +kernel
theorem dX1_greatest_17 : decode cX1_greatest 17 = .ok (.invokestatic 77, 3) := by decide +kernel
theorem dX1_greatest_20 : decode cX1_greatest 20 = .ok (.invokestatic 116, 3) := by decide +kernel
theorem dX1_greatest_23 : decode cX1_greatest 23 = .ok (.istore_n 1, 1) := by decide +kernel
theorem dX1_greatest_24 : decode cX1_greatest 24 = .ok (.iinc 2 1, 3) := by decide +kernel
theorem dX1_greatest_27 : decode cX1_greatest 27 = .ok (.goto (-23), 3) := by decide +kernel
theorem dX1_greatest_30 : decode cX1_greatest 30 = .ok (.iload_n 1, 1) := by decide +kernel
theorem dX1_greatest_31 : decode cX1_greatest 31 = .ok (.ireturn, 1) := by decide +kernel
abbrev wcX1_greatest : List Cond := .code yX1_greatest cX1_greatest 3 (some .int) :: wsL_law
def lX1_greatest_4 : Nat → Nat → Int32 → Int32 → hs_S → Option (Int32 × hs_S)
  | 0, _, _, _, _ => none
  | n + 1, v0, v1, v2, g =>
    if (2000 : Int32) ≤ v2 then (
      some (v1, g)
    ) else (
      if hs_kd g v0 = 1 then
      if ¬ (hs_R g v0 0) = 0 then
      hs_bd (fX9_at ((hs_R g v0 0) - 1) v2 g) fun r4 g3 =>
      lX1_greatest_4 n v0 (if v1 < r4 then r4 else v1) (v2 + (1 : Int32)) g3
      else none else none
    )
theorem lX1_greatest_4_s (n : Nat) (v0 : Nat) (v1 : Int32) (v2 : Int32) (g : hs_S) : lX1_greatest_4 (n + 1) v0 v1 v2 g =
    if (2000 : Int32) ≤ v2 then (
      some (v1, g)
    ) else (
      if hs_kd g v0 = 1 then
      if ¬ (hs_R g v0 0) = 0 then
      hs_bd (fX9_at ((hs_R g v0 0) - 1) v2 g) fun r4 g3 =>
      lX1_greatest_4 n v0 (if v1 < r4 then r4 else v1) (v2 + (1 : Int32)) g3
      else none else none
    ) := rfl
def fX1_greatest (v0 : Nat) (g : hs_S) : Option (Int32 × hs_S) :=
  hs_bd (lX1_greatest_4 hs_N v0 (0 : Int32) (0 : Int32) g) fun x6 g8 =>
  some (x6, g8)
abbrev rmX1_greatest : Room := { frames := 1, cells := 0, slots := 0, locals := 21 }
set_option maxHeartbeats 4000000 in
set_option maxRecDepth 100000 in
theorem wX1_greatest_4 {p : Program} {l : Launch} {e : Env} {s : State} {m : MethodId} {args : Array Value} {below : List Frame} {meth : Method} {c : Code} {B : Nat} {D : va_G} {E : Nat → ClassId} (hX : hs_cx cX1_greatest (some .int) 3 RX1 wcX1_greatest p s m args meth c D E) {Q : State → Prop} {o : Int32 × hs_S} {v0 : Nat} (hex0 : ∀ (H : Heap) (locs : List Loc) (ls : Array Slot), hs_P B D E (o.2) H → hs_Sx B s.heap H locs → lv_has ls 3 [(1, .int (o.1))] → W p l e rmX1_greatest s m args below meth c H locs 0 0 Q (F0 m 30 ls [])) : ∀ (n : Nat) (v1 : Int32) (v2 : Int32) (g : hs_S), lX1_greatest_4 n v0 v1 v2 g = some o → ∀ (H : Heap) (locs : List Loc) (ls : Array Slot), hs_P B D E g H → hs_Sx B s.heap H locs → lv_has ls 3 [(0, .ref (B + v0)), (1, .int v1), (2, .int v2)] → W p l e rmX1_greatest s m args below meth c H locs 0 0 Q (F0 m 4 ls []) := by
  obtain ⟨hx, hb, hr, hml, hown, hts, hlocks, hK⟩ := id hX
  intro n
  induction n with
  | zero =>
    intro v1 v2 g hf
    cases hf
  | succ n ih =>
    intro v1 v2 g hf H locs ls hP hS hl
    replace hf := (lX1_greatest_4_s n v0 v1 v2 g).symm.trans hf
    refine lv_iload_n hx hb dX1_greatest_4 rfl (lv_at hl 2 rfl) ?_
    refine lv_sipush (v := 2000) hx hb dX1_greatest_5 (by decide) ?_
    refine lv_icmp_ge (tgt := 30) hx hb dX1_greatest_8 (by decide) (fun hc => ?_) (fun hc => ?_)
    · replace hf := hs_t hf hc
      obtain rfl := Option.some.inj hf
      exact hex0 _ _ _ hP hS (lv_sub hl [1] rfl)
    · replace hf := hs_f hf hc
      refine lv_iload_n hx hb dX1_greatest_11 rfl (lv_at hl 1 rfl) ?_
      refine lv_aload_n hx hb dX1_greatest_12 rfl (lv_at hl 0 rfl) ?_
      obtain ⟨h1, hf⟩ := hs_ck hf
      obtain ⟨h2, hf⟩ := hs_ck hf
      refine hs_getr (C := RX1) (T := TX1) (N := 3) hx hb hts (fun w h => List.mem_cons_of_mem _ (inlX1 w h)) hown hK.1 hP h1 (by decide) rfl 0 (by decide) (hts _ (List.mem_cons_of_mem _ wq80)) (fun _ h => h) rfl h2 dX1_greatest_13 ?_
      refine lv_iload_n hx hb dX1_greatest_16 rfl (lv_at hl 2 rfl) ?_
      obtain ⟨r4, g3, h5, hf⟩ := hs_bd_some hf
      refine hs_calli (va_runS (As := [.ref (B + ((hs_R g v0 0) - 1)), .int v2]) (rest := [.int v1]) ⟨hx, hb, hml, hown, hts⟩ (ctX9_at l B D E ((hs_R g v0 0) - 1) v2 g _ h5) (va_cwS 2 hts (hs_gS (fun _ h => List.mem_cons_of_mem _ h) wq352 wq193 wq68 wq194) rfl rfl rfl (by decide +kernel) ⟨Nat.le_of_ble_eq_true rfl, Nat.le_of_ble_eq_true rfl⟩) (hs_pre hP hK) rfl rfl hl.1 rfl (lv_room (Nat.le_of_ble_eq_true rfl)) dX1_greatest_17 ⟨(Nat.le_of_ble_eq_true rfl), (Nat.le_of_ble_eq_true rfl)⟩) hS (fun H locs hP hS => ?_)
      refine va_mmax hx hb (hml.trans hl.1.symm) hown (hts _ (List.mem_cons_of_mem _ wq381)) (hts _ (List.mem_cons_of_mem _ wq382)) (hts _ (List.mem_cons_of_mem _ wq360)) (hts _ (List.mem_cons_of_mem _ wq383)) (Nat.le_of_ble_eq_true rfl) (Nat.le_of_ble_eq_true rfl) (Nat.le_of_ble_eq_true rfl) (Nat.le_of_ble_eq_true rfl) dX1_greatest_20 ?_
      refine lv_istore_n (lv' := [(1, .int (if v1 < r4 then r4 else v1)), (0, .ref (B + v0)), (2, .int v2)]) hx hb dX1_greatest_23 rfl hl (by decide) rfl (fun ls hl => ?_)
      refine lv_iinc (v := (v2 + (1 : Int32))) (lv' := [(2, .int (v2 + (1 : Int32))), (1, .int (if v1 < r4 then r4 else v1)), (0, .ref (B + v0))]) hx hb dX1_greatest_24 hl (k := 2) rfl (by rfl) (by decide) rfl (fun ls hl => ?_)
      refine lv_goto (tgt := 4) hx hb dX1_greatest_27 (by decide) ?_
      exact ih _ _ _ hf _ _ _ hP hS (lv_sub hl [2, 1, 0] rfl)

set_option maxHeartbeats 4000000 in
set_option maxRecDepth 100000 in
theorem ctX1_greatest (l : Launch) (B : Nat) (D : va_G) (E : Nat → ClassId) (v0 : Nat) (g : hs_S) (o : Int32 × hs_S) (hf : fX1_greatest v0 g = some o) : Met l yX1_greatest wcX1_greatest rmX1_greatest (hs_Pc B D E g [.ref (B + v0)]) (hs_Qi B D E o) (0) (0) (hs_F B) := by
  refine Met.ofW (cc := cX1_greatest) (maxL := 3) (ret := (some .int)) (by decide) rfl ?_
  intro p e s m args below meth c s₁ Bd hml hv
  obtain ⟨rfl, hP, hK⟩ := hv
  have hx := Bd.exec
  have hb := Bd.bytes
  have hr := Bd.returns
  have hts := atoms_spec (ws := wcX1_greatest) Bd.pre
  have hown : s.vm.findClass RX1 = some m.cls := findClass_of_methodNamed Bd.named
  have hlocks := Bd.notSynchronized
  have hS : hs_Sx B s.heap s.heap [] := va_S.rf
  have hX : hs_cx cX1_greatest (some .int) 3 RX1 wcX1_greatest p s m (List.toArray [.ref (B + v0)]) meth c D E := ⟨hx, hb, hr, hml, hown, hts, hlocks, hK⟩
  have hl := lv_entry ([.ref (B + v0)]) (n := 3) (Nat.le_of_ble_eq_true rfl)
  rw [lg_entry_eq]
  generalize (lg_sl ([.ref (B + v0)]) ++ List.replicate (3 - (lg_sl ([.ref (B + v0)])).length) Slot.unset).toArray = ls at hl ⊢
  have hl : lv_has ls 3 [(0, .ref (B + v0))] := hl
  have hP : hs_P B D E g s.heap := hP
  unfold fX1_greatest at hf
  refine lv_iconst (v := 0) hx hb dX1_greatest_0 (by decide) ?_
  refine lv_istore_n (lv' := [(1, .int (0 : Int32)), (0, .ref (B + v0))]) hx hb dX1_greatest_1 rfl hl (by decide) rfl (fun ls hl => ?_)
  refine lv_iconst (v := 0) hx hb dX1_greatest_2 (by decide) ?_
  refine lv_istore_n (lv' := [(2, .int (0 : Int32)), (1, .int (0 : Int32)), (0, .ref (B + v0))]) hx hb dX1_greatest_3 rfl hl (by decide) rfl (fun ls hl => ?_)
  obtain ⟨x6, g8, h9, hf⟩ := hs_bd_some hf
  refine wX1_greatest_4 hX (fun H locs ls hP hS hl => ?_) hs_N _ _ _ h9 _ _ _ hP hS (lv_sub hl [2, 1, 0] rfl)
  refine lv_iload_n hx hb dX1_greatest_30 rfl (lv_at hl 0 rfl) ?_
  exact hs_iret hx hb hr hlocks rfl hK hP hS hf dX1_greatest_31

theorem dX1_wrongPlace_0 : decode cX1_wrongPlace 0 = .ok (.aload_n 0, 1) := by decide +kernel
theorem dX1_wrongPlace_1 : decode cX1_wrongPlace 1 = .ok (.getfield 9, 3) := by decide +kernel
theorem dX1_wrongPlace_4 : decode cX1_wrongPlace 4 = .ok (.iconst (-1), 1) := by decide +kernel
theorem dX1_wrongPlace_5 : decode cX1_wrongPlace 5 = .ok (.invokestatic 37, 3) := by decide +kernel
theorem dX1_wrongPlace_8 : decode cX1_wrongPlace 8 = .ok (.aload_n 0, 1) := by decide +kernel
theorem dX1_wrongPlace_9 : decode cX1_wrongPlace 9 = .ok (.getfield 15, 3) := by decide +kernel
theorem dX1_wrongPlace_12 : decode cX1_wrongPlace 12 = .ok (.iconst 0, 1) := by decide +kernel
theorem dX1_wrongPlace_13 : decode cX1_wrongPlace 13 = .ok (.invokestatic 37, 3) := by decide +kernel
theorem dX1_wrongPlace_16 : decode cX1_wrongPlace 16 = .ok (.aload_n 0, 1) := by decide +kernel
theorem dX1_wrongPlace_17 : decode cX1_wrongPlace 17 = .ok (.iconst 0, 1) := by decide +kernel
theorem dX1_wrongPlace_18 : decode cX1_wrongPlace 18 = .ok (.putfield 43, 3) := by decide +kernel
theorem dX1_wrongPlace_21 : decode cX1_wrongPlace 21 = .ok (.aload_n 0, 1) := by decide +kernel
theorem dX1_wrongPlace_22 : decode cX1_wrongPlace 22 = .ok (.getfield 9, 3) := by decide +kernel
theorem dX1_wrongPlace_25 : decode cX1_wrongPlace 25 = .ok (.iconst 0, 1) := by decide +kernel
theorem dX1_wrongPlace_26 : decode cX1_wrongPlace 26 = .ok (.iconst 0, 1) := by decide +kernel
theorem dX1_wrongPlace_27 : decode cX1_wrongPlace 27 = .ok (.invokestatic 46, 3) := by decide +kernel
theorem dX1_wrongPlace_30 : decode cX1_wrongPlace 30 = .ok (.iconst 0, 1) := by decide +kernel
theorem dX1_wrongPlace_31 : decode cX1_wrongPlace 31 = .ok (.istore_n 3, 1) := by decide +kernel
theorem dX1_wrongPlace_32 : decode cX1_wrongPlace 32 = .ok (.iload_n 3, 1) := by decide +kernel
theorem dX1_wrongPlace_33 : decode cX1_wrongPlace 33 = .ok (.aload_n 2, 1) := by decide +kernel
theorem dX1_wrongPlace_34 : decode cX1_wrongPlace 34 = .ok (.getfield 52, 3) := by decide +kernel
theorem dX1_wrongPlace_37 : decode cX1_wrongPlace 37 = .ok (.if_icmp .ge 34, 3) := by decide +kernel
theorem dX1_wrongPlace_40 : decode cX1_wrongPlace 40 = .ok (.aload_n 2, 1) := by decide +kernel
theorem dX1_wrongPlace_41 : decode cX1_wrongPlace 41 = .ok (.iload_n 3, 1) := by decide +kernel
theorem dX1_wrongPlace_42 : decode cX1_wrongPlace 42 = .ok (.iconst 2, 1) := by decide +kernel
theorem dX1_wrongPlace_43 : decode cX1_wrongPlace 43 = .ok (.invokevirtual 55, 3) := by decide +kernel
theorem dX1_wrongPlace_46 : decode cX1_wrongPlace 46 = .ok (.istore 4, 2) := by decide +kernel
theorem dX1_wrongPlace_48 : decode cX1_wrongPlace 48 = .ok (.iload 4, 2) := by decide +kernel
theorem dX1_wrongPlace_50 : decode cX1_wrongPlace 50 = .ok (.ifCond .ne 5, 3) := by decide +kernel
theorem dX1_wrongPlace_53 : decode cX1_wrongPlace 53 = .ok (.iconst 0, 1) := by decide +kernel
theorem dX1_wrongPlace_54 : decode cX1_wrongPlace 54 = .ok (.ireturn, 1) := by decide +kernel
theorem dX1_wrongPlace_55 : decode cX1_wrongPlace 55 = .ok (.aload_n 0, 1) := by decide +kernel
theorem dX1_wrongPlace_56 : decode cX1_wrongPlace 56 = .ok (.getfield 9, 3) := by decide +kernel
theorem dX1_wrongPlace_59 : decode cX1_wrongPlace 59 = .ok (.iload 4, 2) := by decide +kernel
theorem dX1_wrongPlace_61 : decode cX1_wrongPlace 61 = .ok (.iconst 1, 1) := by decide +kernel
theorem dX1_wrongPlace_62 : decode cX1_wrongPlace 62 = .ok (.invokestatic 46, 3) := by decide +kernel
theorem dX1_wrongPlace_65 : decode cX1_wrongPlace 65 = .ok (.iinc 3 1, 3) := by decide +kernel
theorem dX1_wrongPlace_68 : decode cX1_wrongPlace 68 = .ok (.goto (-36), 3) := by decide +kernel
theorem dX1_wrongPlace_71 : decode cX1_wrongPlace 71 = .ok (.iconst 0, 1) := by decide +kernel
theorem dX1_wrongPlace_72 : decode cX1_wrongPlace 72 = .ok (.istore_n 3, 1) := by decide +kernel
theorem dX1_wrongPlace_73 : decode cX1_wrongPlace 73 = .ok (.iload_n 3, 1) := by decide +kernel
theorem dX1_wrongPlace_74 : decode cX1_wrongPlace 74 = .ok (.aload_n 2, 1) := by decide +kernel
theorem dX1_wrongPlace_75 : decode cX1_wrongPlace 75 = .ok (.getfield 59, 3) := by decide +kernel
theorem dX1_wrongPlace_78 : decode cX1_wrongPlace 78 = .ok (.if_icmp .ge 41, 3) := by decide +kernel
theorem dX1_wrongPlace_81 : decode cX1_wrongPlace 81 = .ok (.aload_n 0, 1) := by decide +kernel
theorem dX1_wrongPlace_82 : decode cX1_wrongPlace 82 = .ok (.aload_n 2, 1) := by decide +kernel
theorem dX1_wrongPlace_83 : decode cX1_wrongPlace 83 = .ok (.getfield 59, 3) := by decide +kernel
theorem dX1_wrongPlace_86 : decode cX1_wrongPlace 86 = .ok (.invokevirtual 62, 3) := by decide +kernel
theorem dX1_wrongPlace_89 : decode cX1_wrongPlace 89 = .ok (.ifCond .eq 30, 3) := by decide +kernel
theorem dX1_wrongPlace_92 : decode cX1_wrongPlace 92 = .ok (.aload_n 0, 1) := by decide +kernel
theorem dX1_wrongPlace_93 : decode cX1_wrongPlace 93 = .ok (.aload_n 1, 1) := by decide +kernel
theorem dX1_wrongPlace_94 : decode cX1_wrongPlace 94 = .ok (.aload_n 2, 1) := by decide +kernel
theorem dX1_wrongPlace_95 : decode cX1_wrongPlace 95 = .ok (.aload_n 0, 1) := by decide +kernel
theorem dX1_wrongPlace_96 : decode cX1_wrongPlace 96 = .ok (.getfield 43, 3) := by decide +kernel
theorem dX1_wrongPlace_99 : decode cX1_wrongPlace 99 = .ok (.invokevirtual 66, 3) := by decide +kernel
theorem dX1_wrongPlace_102 : decode cX1_wrongPlace 102 = .ok (.istore 4, 2) := by decide +kernel
theorem dX1_wrongPlace_104 : decode cX1_wrongPlace 104 = .ok (.iload 4, 2) := by decide +kernel
theorem dX1_wrongPlace_106 : decode cX1_wrongPlace 106 = .ok (.iconst (-1), 1) := by decide +kernel
theorem dX1_wrongPlace_107 : decode cX1_wrongPlace 107 = .ok (.if_icmp .eq 6, 3) := by decide +kernel
theorem dX1_wrongPlace_110 : decode cX1_wrongPlace 110 = .ok (.iload 4, 2) := by decide +kernel
theorem dX1_wrongPlace_112 : decode cX1_wrongPlace 112 = .ok (.ireturn, 1) := by decide +kernel
theorem dX1_wrongPlace_113 : decode cX1_wrongPlace 113 = .ok (.iinc 3 1, 3) := by decide +kernel
theorem dX1_wrongPlace_116 : decode cX1_wrongPlace 116 = .ok (.goto (-43), 3) := by decide +kernel
theorem dX1_wrongPlace_119 : decode cX1_wrongPlace 119 = .ok (.aload_n 2, 1) := by decide +kernel
theorem dX1_wrongPlace_120 : decode cX1_wrongPlace 120 = .ok (.aload_n 0, 1) := by decide +kernel
theorem dX1_wrongPlace_121 : decode cX1_wrongPlace 121 = .ok (.invokevirtual 70, 3) := by decide +kernel
theorem dX1_wrongPlace_124 : decode cX1_wrongPlace 124 = .ok (.putfield 74, 3) := by decide +kernel
theorem dX1_wrongPlace_127 : decode cX1_wrongPlace 127 = .ok (.iconst (-1), 1) := by decide +kernel
theorem dX1_wrongPlace_128 : decode cX1_wrongPlace 128 = .ok (.ireturn, 1) := by decide +kernel
abbrev wcX1_wrongPlace : List Cond := .code yX1_wrongPlace cX1_wrongPlace 5 (some .int) :: wsL_law
def lX1_wrongPlace_32 : Nat → Nat → Nat → Nat → Int32 → hs_S → Option (Nat × hs_S)
  | 0, _, _, _, _, _ => none
  | n + 1, v0, v1, v2, v3, g =>
    if hs_kd g v2 = 6 then
    if (hs_I g v2 6) ≤ v3 then (
      some (0, g)
    ) else (
      hs_bd (fX7_handlerNumber v2 v3 (2 : Int32) g) fun r18 g17 =>
      if r18 = 0 then (
        some (1, g17)
      ) else (
        if hs_kd g17 v0 = 1 then
        if ¬ (hs_R g17 v0 0) = 0 then
        hs_bv (fX9_put ((hs_R g17 v0 0) - 1) r18 (1 : Int32) g17) fun g22 =>
        lX1_wrongPlace_32 n v0 v1 v2 (v3 + (1 : Int32)) g22
        else none else none
      )
    )
    else none
theorem lX1_wrongPlace_32_s (n : Nat) (v0 : Nat) (v1 : Nat) (v2 : Nat) (v3 : Int32) (g : hs_S) : lX1_wrongPlace_32 (n + 1) v0 v1 v2 v3 g =
    if hs_kd g v2 = 6 then
    if (hs_I g v2 6) ≤ v3 then (
      some (0, g)
    ) else (
      hs_bd (fX7_handlerNumber v2 v3 (2 : Int32) g) fun r18 g17 =>
      if r18 = 0 then (
        some (1, g17)
      ) else (
        if hs_kd g17 v0 = 1 then
        if ¬ (hs_R g17 v0 0) = 0 then
        hs_bv (fX9_put ((hs_R g17 v0 0) - 1) r18 (1 : Int32) g17) fun g22 =>
        lX1_wrongPlace_32 n v0 v1 v2 (v3 + (1 : Int32)) g22
        else none else none
      )
    )
    else none := rfl
def lX1_wrongPlace_73 : Nat → Nat → Nat → Nat → Int32 → hs_S → Option (Nat × Int32 × hs_S)
  | 0, _, _, _, _, _ => none
  | n + 1, v0, v1, v2, v3, g =>
    if hs_kd g v2 = 6 then
    if (hs_I g v2 3) ≤ v3 then (
      some (0, 0, g)
    ) else (
      if hs_kd g v0 = 1 then
      hs_bd (fX1_findLowest v0 (hs_I g v2 3) g) fun r31 g30 =>
      if r31 = 0 then (
        some (0, 0, g30)
      ) else (
        if hs_kd g30 v0 = 1 then
        hs_bd (fX1_goOn v0 v1 v2 (hs_I g30 v0 2) g30) fun r35 g34 =>
        if r35 = (-1 : Int32) then (
          lX1_wrongPlace_73 n v0 v1 v2 (v3 + (1 : Int32)) g34
        ) else (
          some (1, r35, g34)
        )
        else none
      )
      else none
    )
    else none
theorem lX1_wrongPlace_73_s (n : Nat) (v0 : Nat) (v1 : Nat) (v2 : Nat) (v3 : Int32) (g : hs_S) : lX1_wrongPlace_73 (n + 1) v0 v1 v2 v3 g =
    if hs_kd g v2 = 6 then
    if (hs_I g v2 3) ≤ v3 then (
      some (0, 0, g)
    ) else (
      if hs_kd g v0 = 1 then
      hs_bd (fX1_findLowest v0 (hs_I g v2 3) g) fun r31 g30 =>
      if r31 = 0 then (
        some (0, 0, g30)
      ) else (
        if hs_kd g30 v0 = 1 then
        hs_bd (fX1_goOn v0 v1 v2 (hs_I g30 v0 2) g30) fun r35 g34 =>
        if r35 = (-1 : Int32) then (
          lX1_wrongPlace_73 n v0 v1 v2 (v3 + (1 : Int32)) g34
        ) else (
          some (1, r35, g34)
        )
        else none
      )
      else none
    )
    else none := rfl
def jX1_wrongPlace_119 (v0 : Nat) (v2 : Nat) (g : hs_S) : Option (Int32 × hs_S) :=
  if hs_kd g v0 = 1 then
  hs_bd (fX1_greatest v0 g) fun r43 g42 =>
  if hs_kd g42 v2 = 6 then
  some ((-1 : Int32), (hs_wI g42 v2 10 r43))
  else none else none
def fX1_wrongPlace (v0 : Nat) (v1 : Nat) (v2 : Nat) (g : hs_S) : Option (Int32 × hs_S) :=
  if hs_kd g v0 = 1 then
  if ¬ (hs_R g v0 0) = 0 then
  hs_bv (fJ7_fill_53178 ((hs_R g v0 0) - 1) (-1 : Int32) g) fun g3 =>
  if hs_kd g3 v0 = 1 then
  if ¬ (hs_R g3 v0 1) = 0 then
  hs_bv (fJ7_fill_53178 ((hs_R g3 v0 1) - 1) (0 : Int32) g3) fun g8 =>
  if hs_kd g8 v0 = 1 then
  if ¬ (hs_R (hs_wI g8 v0 2 (0 : Int32)) v0 0) = 0 then
  hs_bv (fX9_put ((hs_R (hs_wI g8 v0 2 (0 : Int32)) v0 0) - 1) (0 : Int32) (0 : Int32) (hs_wI g8 v0 2 (0 : Int32))) fun g13 =>
  hs_bd (lX1_wrongPlace_32 hs_N v0 v1 v2 (0 : Int32) g13) fun k25 g26 =>
  if k25 = 0 then (
    hs_b3 (lX1_wrongPlace_73 hs_N v0 v1 v2 (0 : Int32) g26) fun k38 x37 g39 =>
    if k38 = 0 then (
      jX1_wrongPlace_119 v0 v2 g39
    ) else (
      some (x37, g39)
    )
  ) else (
    some ((0 : Int32), g26)
  )
  else none else none else none else none else none else none
abbrev rmX1_wrongPlace : Room := { frames := 4, cells := 0, slots := 0, locals := 96 }
set_option maxHeartbeats 4000000 in
set_option maxRecDepth 100000 in
theorem wX1_wrongPlace_32 {p : Program} {l : Launch} {e : Env} {s : State} {m : MethodId} {args : Array Value} {below : List Frame} {meth : Method} {c : Code} {B : Nat} {D : va_G} {E : Nat → ClassId} (hX : hs_cx cX1_wrongPlace (some .int) 5 RX1 wcX1_wrongPlace p s m args meth c D E) {Q : State → Prop} {o : Nat × hs_S} {v0 : Nat} {v1 : Nat} {v2 : Nat} (hex0 : o.1 = 0 → ∀ (H : Heap) (locs : List Loc) (ls : Array Slot), hs_P B D E (o.2) H → hs_Sx B s.heap H locs → lv_has ls 5 [(0, .ref (B + v0)), (1, .ref (B + v1)), (2, .ref (B + v2))] → W p l e rmX1_wrongPlace s m args below meth c H locs 0 0 Q (F0 m 71 ls [])) (hex1 : o.1 = 1 → ∀ (H : Heap) (locs : List Loc) (ls : Array Slot), hs_P B D E (o.2) H → hs_Sx B s.heap H locs → lv_has ls 5 [] → W p l e rmX1_wrongPlace s m args below meth c H locs 0 0 Q (F0 m 53 ls [])) : ∀ (n : Nat) (v3 : Int32) (g : hs_S), lX1_wrongPlace_32 n v0 v1 v2 v3 g = some o → ∀ (H : Heap) (locs : List Loc) (ls : Array Slot), hs_P B D E g H → hs_Sx B s.heap H locs → lv_has ls 5 [(0, .ref (B + v0)), (1, .ref (B + v1)), (2, .ref (B + v2)), (3, .int v3)] → W p l e rmX1_wrongPlace s m args below meth c H locs 0 0 Q (F0 m 32 ls []) := by
  obtain ⟨hx, hb, hr, hml, hown, hts, hlocks, hK⟩ := id hX
  intro n
  induction n with
  | zero =>
    intro v3 g hf
    cases hf
  | succ n ih =>
    intro v3 g hf H locs ls hP hS hl
    replace hf := (lX1_wrongPlace_32_s n v0 v1 v2 v3 g).symm.trans hf
    refine lv_iload_n hx hb dX1_wrongPlace_32 rfl (lv_at hl 3 rfl) ?_
    refine lv_aload_n hx hb dX1_wrongPlace_33 rfl (lv_at hl 2 rfl) ?_
    obtain ⟨h16, hf⟩ := hs_ck hf
    refine hs_geti (C := RX7) (T := TX7) (N := 11) hx hb hts (fun w h => List.mem_cons_of_mem _ (inlX7 w h)) hown hK.1 hP h16 (by decide) rfl 6 (by decide) (hts _ (List.mem_cons_of_mem _ wq342)) (fun _ h => h) rfl dX1_wrongPlace_34 ?_
    refine lv_icmp_ge (tgt := 71) hx hb dX1_wrongPlace_37 (by decide) (fun hc => ?_) (fun hc => ?_)
    · replace hf := hs_t hf hc
      obtain rfl := Option.some.inj hf
      exact hex0 rfl _ _ _ hP hS (lv_sub hl [0, 1, 2] rfl)
    · replace hf := hs_f hf hc
      refine lv_aload_n hx hb dX1_wrongPlace_40 rfl (lv_at hl 2 rfl) ?_
      refine lv_iload_n hx hb dX1_wrongPlace_41 rfl (lv_at hl 3 rfl) ?_
      refine lv_iconst (v := 2) hx hb dX1_wrongPlace_42 (by decide) ?_
      obtain ⟨r18, g17, h19, hf⟩ := hs_bd_some hf
      refine hs_calli (va_runV (As := [.int v3, .int (2 : Int32)]) (rest := []) ⟨hx, hb, hml, hown, hts⟩ (ctX7_handlerNumber l B D E v2 v3 (2 : Int32) g _ h19) (cwV 2 hts (hs_gV (fun _ h => List.mem_cons_of_mem _ h) wq347 wq322 wq323 wq43 wq324) rfl rfl rfl (by decide +kernel) ⟨Nat.le_of_ble_eq_true rfl, Nat.le_of_ble_eq_true rfl⟩) (hs_preV (r := (RX7, TX7, 11)) hP hK h16 (by decide) rfl) rfl rfl hl.1 rfl (lv_room (Nat.le_of_ble_eq_true rfl)) dX1_wrongPlace_43 ⟨(Nat.le_of_ble_eq_true rfl), (Nat.le_of_ble_eq_true rfl)⟩) hS (fun H locs hP hS => ?_)
      refine lv_istore (lv' := [(4, .int r18), (0, .ref (B + v0)), (1, .ref (B + v1)), (2, .ref (B + v2)), (3, .int v3)]) hx hb dX1_wrongPlace_46 hl (by decide) rfl (fun ls hl => ?_)
      refine lv_iload hx hb dX1_wrongPlace_48 (lv_at hl 0 rfl) ?_
      refine lv_if_ne (tgt := 55) hx hb dX1_wrongPlace_50 (by decide) (fun hc => ?_) (fun hc => ?_)
      · replace hf := hs_f hf hc
        refine lv_aload_n hx hb dX1_wrongPlace_55 rfl (lv_at hl 1 rfl) ?_
        obtain ⟨h20, hf⟩ := hs_ck hf
        obtain ⟨h21, hf⟩ := hs_ck hf
        refine hs_getr (C := RX1) (T := TX1) (N := 3) hx hb hts (fun w h => List.mem_cons_of_mem _ (inlX1 w h)) hown hK.1 hP h20 (by decide) rfl 0 (by decide) (hts _ (List.mem_cons_of_mem _ wq80)) (fun _ h => h) rfl h21 dX1_wrongPlace_56 ?_
        refine lv_iload hx hb dX1_wrongPlace_59 (lv_at hl 0 rfl) ?_
        refine lv_iconst (v := 1) hx hb dX1_wrongPlace_61 (by decide) ?_
        obtain ⟨g22, h24, hf⟩ := hs_bv_some hf
        refine hs_callv (va_runS (As := [.ref (B + ((hs_R g17 v0 0) - 1)), .int r18, .int (1 : Int32)]) (rest := []) ⟨hx, hb, hml, hown, hts⟩ (ctX9_put l B D E ((hs_R g17 v0 0) - 1) r18 (1 : Int32) g17 _ h24) (va_cwS 3 hts (hs_gS (fun _ h => List.mem_cons_of_mem _ h) wq346 wq67 wq68 wq69) rfl rfl rfl (by decide +kernel) ⟨Nat.le_of_ble_eq_true rfl, Nat.le_of_ble_eq_true rfl⟩) (hs_pre hP hK) rfl rfl hl.1 rfl (lv_room (Nat.le_of_ble_eq_true rfl)) dX1_wrongPlace_62 ⟨(Nat.le_of_ble_eq_true rfl), (Nat.le_of_ble_eq_true rfl)⟩) hS (fun H locs hP hS => ?_)
        refine lv_iinc (v := (v3 + (1 : Int32))) (lv' := [(3, .int (v3 + (1 : Int32))), (4, .int r18), (0, .ref (B + v0)), (1, .ref (B + v1)), (2, .ref (B + v2))]) hx hb dX1_wrongPlace_65 hl (k := 4) rfl (by rfl) (by decide) rfl (fun ls hl => ?_)
        refine lv_goto (tgt := 32) hx hb dX1_wrongPlace_68 (by decide) ?_
        exact ih _ _ hf _ _ _ hP hS (lv_sub hl [2, 3, 4, 0] rfl)
      · replace hf := hs_t hf hc
        obtain rfl := Option.some.inj hf
        exact hex1 rfl _ _ _ hP hS (lv_sub hl [] rfl)

set_option maxHeartbeats 4000000 in
set_option maxRecDepth 100000 in
theorem wX1_wrongPlace_73 {p : Program} {l : Launch} {e : Env} {s : State} {m : MethodId} {args : Array Value} {below : List Frame} {meth : Method} {c : Code} {B : Nat} {D : va_G} {E : Nat → ClassId} (hX : hs_cx cX1_wrongPlace (some .int) 5 RX1 wcX1_wrongPlace p s m args meth c D E) {Q : State → Prop} {o : Nat × Int32 × hs_S} {v0 : Nat} {v1 : Nat} {v2 : Nat} (hex0 : o.1 = 0 → ∀ (H : Heap) (locs : List Loc) (ls : Array Slot), hs_P B D E (o.2.2) H → hs_Sx B s.heap H locs → lv_has ls 5 [(0, .ref (B + v0)), (2, .ref (B + v2))] → W p l e rmX1_wrongPlace s m args below meth c H locs 0 0 Q (F0 m 119 ls [])) (hex1 : o.1 = 1 → ∀ (H : Heap) (locs : List Loc) (ls : Array Slot), hs_P B D E (o.2.2) H → hs_Sx B s.heap H locs → lv_has ls 5 [(4, .int (o.2.1))] → W p l e rmX1_wrongPlace s m args below meth c H locs 0 0 Q (F0 m 110 ls [])) : ∀ (n : Nat) (v3 : Int32) (g : hs_S), lX1_wrongPlace_73 n v0 v1 v2 v3 g = some o → ∀ (H : Heap) (locs : List Loc) (ls : Array Slot), hs_P B D E g H → hs_Sx B s.heap H locs → lv_has ls 5 [(0, .ref (B + v0)), (1, .ref (B + v1)), (2, .ref (B + v2)), (3, .int v3)] → W p l e rmX1_wrongPlace s m args below meth c H locs 0 0 Q (F0 m 73 ls []) := by
  obtain ⟨hx, hb, hr, hml, hown, hts, hlocks, hK⟩ := id hX
  intro n
  induction n with
  | zero =>
    intro v3 g hf
    cases hf
  | succ n ih =>
    intro v3 g hf H locs ls hP hS hl
    replace hf := (lX1_wrongPlace_73_s n v0 v1 v2 v3 g).symm.trans hf
    refine lv_iload_n hx hb dX1_wrongPlace_73 rfl (lv_at hl 3 rfl) ?_
    refine lv_aload_n hx hb dX1_wrongPlace_74 rfl (lv_at hl 2 rfl) ?_
    obtain ⟨h28, hf⟩ := hs_ck hf
    refine hs_geti (C := RX7) (T := TX7) (N := 11) hx hb hts (fun w h => List.mem_cons_of_mem _ (inlX7 w h)) hown hK.1 hP h28 (by decide) rfl 3 (by decide) (hts _ (List.mem_cons_of_mem _ wq343)) (fun _ h => h) rfl dX1_wrongPlace_75 ?_
    refine lv_icmp_ge (tgt := 119) hx hb dX1_wrongPlace_78 (by decide) (fun hc => ?_) (fun hc => ?_)
    · replace hf := hs_t hf hc
      obtain rfl := Option.some.inj hf
      exact hex0 rfl _ _ _ hP hS (lv_sub hl [0, 2] rfl)
    · replace hf := hs_f hf hc
      refine lv_aload_n hx hb dX1_wrongPlace_81 rfl (lv_at hl 0 rfl) ?_
      refine lv_aload_n hx hb dX1_wrongPlace_82 rfl (lv_at hl 2 rfl) ?_
      refine hs_geti (C := RX7) (T := TX7) (N := 11) hx hb hts (fun w h => List.mem_cons_of_mem _ (inlX7 w h)) hown hK.1 hP h28 (by decide) rfl 3 (by decide) (hts _ (List.mem_cons_of_mem _ wq343)) (fun _ h => h) rfl dX1_wrongPlace_83 ?_
      obtain ⟨h29, hf⟩ := hs_ck hf
      obtain ⟨r31, g30, h32, hf⟩ := hs_bd_some hf
      refine hs_calli (va_runV (As := [.int (hs_I g v2 3)]) (rest := []) ⟨hx, hb, hml, hown, hts⟩ (ctX1_findLowest l B D E v0 (hs_I g v2 3) g _ h32) (cwV 1 hts (hs_gV (fun _ h => List.mem_cons_of_mem _ h) wq348 wq349 wq350 wq75 wq351) rfl rfl rfl (by decide +kernel) ⟨Nat.le_of_ble_eq_true rfl, Nat.le_of_ble_eq_true rfl⟩) (hs_preV (r := (RX1, TX1, 3)) hP hK h29 (by decide) rfl) rfl rfl hl.1 rfl (lv_room (Nat.le_of_ble_eq_true rfl)) dX1_wrongPlace_86 ⟨(Nat.le_of_ble_eq_true rfl), (Nat.le_of_ble_eq_true rfl)⟩) hS (fun H locs hP hS => ?_)
      refine lv_if_eq (tgt := 119) hx hb dX1_wrongPlace_89 (by decide) (fun hc => ?_) (fun hc => ?_)
      · replace hf := hs_t hf hc
        obtain rfl := Option.some.inj hf
        exact hex0 rfl _ _ _ hP hS (lv_sub hl [0, 2] rfl)
      · replace hf := hs_f hf hc
        refine lv_aload_n hx hb dX1_wrongPlace_92 rfl (lv_at hl 0 rfl) ?_
        refine lv_aload_n hx hb dX1_wrongPlace_93 rfl (lv_at hl 1 rfl) ?_
        refine lv_aload_n hx hb dX1_wrongPlace_94 rfl (lv_at hl 2 rfl) ?_
        refine lv_aload_n hx hb dX1_wrongPlace_95 rfl (lv_at hl 0 rfl) ?_
        obtain ⟨h33, hf⟩ := hs_ck hf
        refine hs_geti (C := RX1) (T := TX1) (N := 3) hx hb hts (fun w h => List.mem_cons_of_mem _ (inlX1 w h)) hown hK.1 hP h33 (by decide) rfl 2 (by decide) (hts _ (List.mem_cons_of_mem _ wq341)) (fun _ h => h) rfl dX1_wrongPlace_96 ?_
        obtain ⟨r35, g34, h36, hf⟩ := hs_bd_some hf
        refine hs_calli (va_runV (As := [.ref (B + v1), .ref (B + v2), .int (hs_I g30 v0 2)]) (rest := []) ⟨hx, hb, hml, hown, hts⟩ (ctX1_goOn l B D E v0 v1 v2 (hs_I g30 v0 2) g30 _ h36) (cwV 3 hts (hs_gV (fun _ h => List.mem_cons_of_mem _ h) wq353 wq354 wq355 wq75 wq356) rfl rfl rfl (by decide +kernel) ⟨Nat.le_of_ble_eq_true rfl, Nat.le_of_ble_eq_true rfl⟩) (hs_preV (r := (RX1, TX1, 3)) hP hK h33 (by decide) rfl) rfl rfl hl.1 rfl (lv_room (Nat.le_of_ble_eq_true rfl)) dX1_wrongPlace_99 ⟨(Nat.le_of_ble_eq_true rfl), (Nat.le_of_ble_eq_true rfl)⟩) hS (fun H locs hP hS => ?_)
        refine lv_istore (lv' := [(4, .int r35), (0, .ref (B + v0)), (1, .ref (B + v1)), (2, .ref (B + v2)), (3, .int v3)]) hx hb dX1_wrongPlace_102 hl (by decide) rfl (fun ls hl => ?_)
        refine lv_iload hx hb dX1_wrongPlace_104 (lv_at hl 0 rfl) ?_
        refine lv_iconst (v := -1) hx hb dX1_wrongPlace_106 (by decide) ?_
        refine lv_icmp_eq (tgt := 113) hx hb dX1_wrongPlace_107 (by decide) (fun hc => ?_) (fun hc => ?_)
        · replace hf := hs_t hf hc
          refine lv_iinc (v := (v3 + (1 : Int32))) (lv' := [(3, .int (v3 + (1 : Int32))), (4, .int r35), (0, .ref (B + v0)), (1, .ref (B + v1)), (2, .ref (B + v2))]) hx hb dX1_wrongPlace_113 hl (k := 4) rfl (by rfl) (by decide) rfl (fun ls hl => ?_)
          refine lv_goto (tgt := 73) hx hb dX1_wrongPlace_116 (by decide) ?_
          exact ih _ _ hf _ _ _ hP hS (lv_sub hl [2, 3, 4, 0] rfl)
        · replace hf := hs_f hf hc
          obtain rfl := Option.some.inj hf
          exact hex1 rfl _ _ _ hP hS (lv_sub hl [0] rfl)

set_option maxHeartbeats 4000000 in
set_option maxRecDepth 100000 in
theorem wX1_wrongPlace_j119 {p : Program} {l : Launch} {e : Env} {s : State} {m : MethodId} {args : Array Value} {below : List Frame} {meth : Method} {c : Code} {B : Nat} {D : va_G} {E : Nat → ClassId} (hX : hs_cx cX1_wrongPlace (some .int) 5 RX1 wcX1_wrongPlace p s m args meth c D E) {o : Int32 × hs_S}  {v0 : Nat} {v2 : Nat}   {g : hs_S} {H : Heap} {locs : List Loc} {ls : Array Slot} (hf : jX1_wrongPlace_119 v0 v2 g = some o) (hP : hs_P B D E g H) (hS : hs_Sx B s.heap H locs) (hl : lv_has ls 5 [(0, .ref (B + v0)), (2, .ref (B + v2))]) : W p l e rmX1_wrongPlace s m args below meth c H locs 0 0 (MQ below (hs_Qi B D E o) args s 0 0 (hs_F B)) (F0 m 119 ls []) := by
  obtain ⟨hx, hb, hr, hml, hown, hts, hlocks, hK⟩ := id hX
  unfold jX1_wrongPlace_119 at hf
  refine lv_aload_n hx hb dX1_wrongPlace_119 rfl (lv_at hl 1 rfl) ?_
  refine lv_aload_n hx hb dX1_wrongPlace_120 rfl (lv_at hl 0 rfl) ?_
  obtain ⟨h41, hf⟩ := hs_ck hf
  obtain ⟨r43, g42, h44, hf⟩ := hs_bd_some hf
  refine hs_calli (va_runV (As := []) (rest := [.ref (B + v2)]) ⟨hx, hb, hml, hown, hts⟩ (ctX1_greatest l B D E v0 g _ h44) (cwV 0 hts (hs_gV (fun _ h => List.mem_cons_of_mem _ h) wq377 wq378 wq379 wq75 wq380) rfl rfl rfl (by decide +kernel) ⟨Nat.le_of_ble_eq_true rfl, Nat.le_of_ble_eq_true rfl⟩) (hs_preV (r := (RX1, TX1, 3)) hP hK h41 (by decide) rfl) rfl rfl hl.1 rfl (lv_room (Nat.le_of_ble_eq_true rfl)) dX1_wrongPlace_121 ⟨(Nat.le_of_ble_eq_true rfl), (Nat.le_of_ble_eq_true rfl)⟩) hS (fun H locs hP hS => ?_)
  obtain ⟨h45, hf⟩ := hs_ck hf
  refine hs_puti (C := RX7) (T := TX7) (N := 11) hx hb hts (fun w h => List.mem_cons_of_mem _ (inlX7 w h)) tyX7 tyX7_ok nmX7 hown hK.1 hP hS h45 (by decide) rfl 10 (by decide) (hts _ (List.mem_cons_of_mem _ wq344)) (fun _ h => h) (Or.inl rfl) rfl rfl rfl dX1_wrongPlace_124 (fun H locs hP hS => ?_)
  refine lv_iconst (v := -1) hx hb dX1_wrongPlace_127 (by decide) ?_
  exact hs_iret hx hb hr hlocks rfl hK hP hS hf dX1_wrongPlace_128

set_option maxHeartbeats 4000000 in
set_option maxRecDepth 100000 in
theorem ctX1_wrongPlace (l : Launch) (B : Nat) (D : va_G) (E : Nat → ClassId) (v0 : Nat) (v1 : Nat) (v2 : Nat) (g : hs_S) (o : Int32 × hs_S) (hf : fX1_wrongPlace v0 v1 v2 g = some o) : Met l yX1_wrongPlace wcX1_wrongPlace rmX1_wrongPlace (hs_Pc B D E g [.ref (B + v0), .ref (B + v1), .ref (B + v2)]) (hs_Qi B D E o) (0) (0) (hs_F B) := by
  refine Met.ofW (cc := cX1_wrongPlace) (maxL := 5) (ret := (some .int)) (by decide) rfl ?_
  intro p e s m args below meth c s₁ Bd hml hv
  obtain ⟨rfl, hP, hK⟩ := hv
  have hx := Bd.exec
  have hb := Bd.bytes
  have hr := Bd.returns
  have hts := atoms_spec (ws := wcX1_wrongPlace) Bd.pre
  have hown : s.vm.findClass RX1 = some m.cls := findClass_of_methodNamed Bd.named
  have hlocks := Bd.notSynchronized
  have hS : hs_Sx B s.heap s.heap [] := va_S.rf
  have hX : hs_cx cX1_wrongPlace (some .int) 5 RX1 wcX1_wrongPlace p s m (List.toArray [.ref (B + v0), .ref (B + v1), .ref (B + v2)]) meth c D E := ⟨hx, hb, hr, hml, hown, hts, hlocks, hK⟩
  have hl := lv_entry ([.ref (B + v0), .ref (B + v1), .ref (B + v2)]) (n := 5) (Nat.le_of_ble_eq_true rfl)
  rw [lg_entry_eq]
  generalize (lg_sl ([.ref (B + v0), .ref (B + v1), .ref (B + v2)]) ++ List.replicate (5 - (lg_sl ([.ref (B + v0), .ref (B + v1), .ref (B + v2)])).length) Slot.unset).toArray = ls at hl ⊢
  have hl : lv_has ls 5 [(0, .ref (B + v0)), (1, .ref (B + v1)), (2, .ref (B + v2))] := hl
  have hP : hs_P B D E g s.heap := hP
  unfold fX1_wrongPlace at hf
  refine lv_aload_n hx hb dX1_wrongPlace_0 rfl (lv_at hl 0 rfl) ?_
  obtain ⟨h1, hf⟩ := hs_ck hf
  obtain ⟨h2, hf⟩ := hs_ck hf
  refine hs_getr (C := RX1) (T := TX1) (N := 3) hx hb hts (fun w h => List.mem_cons_of_mem _ (inlX1 w h)) hown hK.1 hP h1 (by decide) rfl 0 (by decide) (hts _ (List.mem_cons_of_mem _ wq80)) (fun _ h => h) rfl h2 dX1_wrongPlace_1 ?_
  refine lv_iconst (v := -1) hx hb dX1_wrongPlace_4 (by decide) ?_
  obtain ⟨g3, h5, hf⟩ := hs_bv_some hf
  refine hs_callv (va_runS (As := [.ref (B + ((hs_R g v0 0) - 1)), .int (-1 : Int32)]) (rest := []) ⟨hx, hb, hml, hown, hts⟩ (ctJ7_fill_53178 l B D E ((hs_R g v0 0) - 1) (-1 : Int32) g _ h5) (va_cwS 2 hts (hs_gS (fun _ h => List.mem_cons_of_mem _ h) wq345 wq63 wq64 wq65) rfl rfl rfl (by decide +kernel) ⟨Nat.le_of_ble_eq_true rfl, Nat.le_of_ble_eq_true rfl⟩) (hs_pre hP hK) rfl rfl hl.1 rfl (lv_room (Nat.le_of_ble_eq_true rfl)) dX1_wrongPlace_5 ⟨(Nat.le_of_ble_eq_true rfl), (Nat.le_of_ble_eq_true rfl)⟩) hS (fun H locs hP hS => ?_)
  refine lv_aload_n hx hb dX1_wrongPlace_8 rfl (lv_at hl 0 rfl) ?_
  obtain ⟨h6, hf⟩ := hs_ck hf
  obtain ⟨h7, hf⟩ := hs_ck hf
  refine hs_getr (C := RX1) (T := TX1) (N := 3) hx hb hts (fun w h => List.mem_cons_of_mem _ (inlX1 w h)) hown hK.1 hP h6 (by decide) rfl 1 (by decide) (hts _ (List.mem_cons_of_mem _ wq81)) (fun _ h => h) rfl h7 dX1_wrongPlace_9 ?_
  refine lv_iconst (v := 0) hx hb dX1_wrongPlace_12 (by decide) ?_
  obtain ⟨g8, h10, hf⟩ := hs_bv_some hf
  refine hs_callv (va_runS (As := [.ref (B + ((hs_R g3 v0 1) - 1)), .int (0 : Int32)]) (rest := []) ⟨hx, hb, hml, hown, hts⟩ (ctJ7_fill_53178 l B D E ((hs_R g3 v0 1) - 1) (0 : Int32) g3 _ h10) (va_cwS 2 hts (hs_gS (fun _ h => List.mem_cons_of_mem _ h) wq345 wq63 wq64 wq65) rfl rfl rfl (by decide +kernel) ⟨Nat.le_of_ble_eq_true rfl, Nat.le_of_ble_eq_true rfl⟩) (hs_pre hP hK) rfl rfl hl.1 rfl (lv_room (Nat.le_of_ble_eq_true rfl)) dX1_wrongPlace_13 ⟨(Nat.le_of_ble_eq_true rfl), (Nat.le_of_ble_eq_true rfl)⟩) hS (fun H locs hP hS => ?_)
  refine lv_aload_n hx hb dX1_wrongPlace_16 rfl (lv_at hl 0 rfl) ?_
  refine lv_iconst (v := 0) hx hb dX1_wrongPlace_17 (by decide) ?_
  obtain ⟨h11, hf⟩ := hs_ck hf
  refine hs_puti (C := RX1) (T := TX1) (N := 3) hx hb hts (fun w h => List.mem_cons_of_mem _ (inlX1 w h)) tyX1 tyX1_ok nmX1 hown hK.1 hP hS h11 (by decide) rfl 2 (by decide) (hts _ (List.mem_cons_of_mem _ wq341)) (fun _ h => h) (Or.inl rfl) rfl rfl rfl dX1_wrongPlace_18 (fun H locs hP hS => ?_)
  refine lv_aload_n hx hb dX1_wrongPlace_21 rfl (lv_at hl 0 rfl) ?_
  obtain ⟨h12, hf⟩ := hs_ck hf
  refine hs_getr (C := RX1) (T := TX1) (N := 3) hx hb hts (fun w h => List.mem_cons_of_mem _ (inlX1 w h)) hown hK.1 hP h11 (by decide) rfl 0 (by decide) (hts _ (List.mem_cons_of_mem _ wq80)) (fun _ h => h) rfl h12 dX1_wrongPlace_22 ?_
  refine lv_iconst (v := 0) hx hb dX1_wrongPlace_25 (by decide) ?_
  refine lv_iconst (v := 0) hx hb dX1_wrongPlace_26 (by decide) ?_
  obtain ⟨g13, h15, hf⟩ := hs_bv_some hf
  refine hs_callv (va_runS (As := [.ref (B + ((hs_R (hs_wI g8 v0 2 (0 : Int32)) v0 0) - 1)), .int (0 : Int32), .int (0 : Int32)]) (rest := []) ⟨hx, hb, hml, hown, hts⟩ (ctX9_put l B D E ((hs_R (hs_wI g8 v0 2 (0 : Int32)) v0 0) - 1) (0 : Int32) (0 : Int32) (hs_wI g8 v0 2 (0 : Int32)) _ h15) (va_cwS 3 hts (hs_gS (fun _ h => List.mem_cons_of_mem _ h) wq346 wq67 wq68 wq69) rfl rfl rfl (by decide +kernel) ⟨Nat.le_of_ble_eq_true rfl, Nat.le_of_ble_eq_true rfl⟩) (hs_pre hP hK) rfl rfl hl.1 rfl (lv_room (Nat.le_of_ble_eq_true rfl)) dX1_wrongPlace_27 ⟨(Nat.le_of_ble_eq_true rfl), (Nat.le_of_ble_eq_true rfl)⟩) hS (fun H locs hP hS => ?_)
  refine lv_iconst (v := 0) hx hb dX1_wrongPlace_30 (by decide) ?_
  refine lv_istore_n (lv' := [(3, .int (0 : Int32)), (0, .ref (B + v0)), (1, .ref (B + v1)), (2, .ref (B + v2))]) hx hb dX1_wrongPlace_31 rfl hl (by decide) rfl (fun ls hl => ?_)
  obtain ⟨k25, g26, h27, hf⟩ := hs_bd_some hf
  refine wX1_wrongPlace_32 hX (fun hlab H locs ls hP hS hl => ?_) (fun hlab H locs ls hP hS hl => ?_) hs_N _ _ h27 _ _ _ hP hS (lv_sub hl [1, 2, 3, 0] rfl)
  · replace hlab : k25 = 0 := hlab
    replace hf := hs_t hf hlab
    refine lv_iconst (v := 0) hx hb dX1_wrongPlace_71 (by decide) ?_
    refine lv_istore_n (lv' := [(3, .int (0 : Int32)), (0, .ref (B + v0)), (1, .ref (B + v1)), (2, .ref (B + v2))]) hx hb dX1_wrongPlace_72 rfl hl (by decide) rfl (fun ls hl => ?_)
    obtain ⟨k38, x37, g39, h40, hf⟩ := hs_b3_some hf
    refine wX1_wrongPlace_73 hX (fun hlab H locs ls hP hS hl => ?_) (fun hlab H locs ls hP hS hl => ?_) hs_N _ _ h40 _ _ _ hP hS (lv_sub hl [1, 2, 3, 0] rfl)
    · replace hlab : k38 = 0 := hlab
      replace hf := hs_t hf hlab
      exact wX1_wrongPlace_j119 hX hf hP hS (lv_sub hl [0, 1] rfl)
    · replace hlab : k38 = 1 := hlab
      replace hf := hs_f hf (by rw [hlab]; decide)
      refine lv_iload hx hb dX1_wrongPlace_110 (lv_at hl 0 rfl) ?_
      exact hs_iret hx hb hr hlocks rfl hK hP hS hf dX1_wrongPlace_112
  · replace hlab : k25 = 1 := hlab
    replace hf := hs_f hf (by rw [hlab]; decide)
    refine lv_iconst (v := 0) hx hb dX1_wrongPlace_53 (by decide) ?_
    exact hs_iret hx hb hr hlocks rfl hK hP hS hf dX1_wrongPlace_54

theorem dX1_firstWrong_0 : decode cX1_firstWrong 0 = .ok (.iconst 0, 1) := by decide +kernel
theorem dX1_firstWrong_1 : decode cX1_firstWrong 1 = .ok (.istore_n 2, 1) := by decide +kernel
theorem dX1_firstWrong_2 : decode cX1_firstWrong 2 = .ok (.iload_n 2, 1) := by decide +kernel
theorem dX1_firstWrong_3 : decode cX1_firstWrong 3 = .ok (.aload_n 1, 1) := by decide +kernel
theorem dX1_firstWrong_4 : decode cX1_firstWrong 4 = .ok (.getfield 18, 3) := by decide +kernel
theorem dX1_firstWrong_7 : decode cX1_firstWrong 7 = .ok (.if_icmp .ge 36, 3) := by decide +kernel
theorem dX1_firstWrong_10 : decode cX1_firstWrong 10 = .ok (.aload_n 0, 1) := by decide +kernel
theorem dX1_firstWrong_11 : decode cX1_firstWrong 11 = .ok (.aload_n 1, 1) := by decide +kernel
theorem dX1_firstWrong_12 : decode cX1_firstWrong 12 = .ok (.aload_n 1, 1) := by decide +kernel
theorem dX1_firstWrong_13 : decode cX1_firstWrong 13 = .ok (.iload_n 2, 1) := by decide +kernel
theorem dX1_firstWrong_14 : decode cX1_firstWrong 14 = .ok (.invokevirtual 24, 3) := by decide +kernel
theorem dX1_firstWrong_17 : decode cX1_firstWrong 17 = .ok (.invokevirtual 28, 3) := by decide +kernel
theorem dX1_firstWrong_20 : decode cX1_firstWrong 20 = .ok (.istore_n 3, 1) := by decide +kernel
theorem dX1_firstWrong_21 : decode cX1_firstWrong 21 = .ok (.iload_n 3, 1) := by decide +kernel
theorem dX1_firstWrong_22 : decode cX1_firstWrong 22 = .ok (.iconst (-1), 1) := by decide +kernel
theorem dX1_firstWrong_23 : decode cX1_firstWrong 23 = .ok (.if_icmp .eq 14, 3) := by decide +kernel
theorem dX1_firstWrong_26 : decode cX1_firstWrong 26 = .ok (.aload_n 1, 1) := by decide +kernel
theorem dX1_firstWrong_27 : decode cX1_firstWrong 27 = .ok (.iload_n 2, 1) := by decide +kernel
theorem dX1_firstWrong_28 : decode cX1_firstWrong 28 = .ok (.invokevirtual 24, 3) := by decide +kernel
theorem dX1_firstWrong_31 : decode cX1_firstWrong 31 = .ok (.getfield 32, 3) := by decide +kernel
theorem dX1_firstWrong_34 : decode cX1_firstWrong 34 = .ok (.iload_n 3, 1) := by decide +kernel
theorem dX1_firstWrong_35 : decode cX1_firstWrong 35 = .ok (.iadd, 1) := by decide +kernel
theorem dX1_firstWrong_36 : decode cX1_firstWrong 36 = .ok (.ireturn, 1) := by decide +kernel
theorem dX1_firstWrong_37 : decode cX1_firstWrong 37 = .ok (.iinc 2 1, 3) := by decide +kernel
theorem dX1_firstWrong_40 : decode cX1_firstWrong 40 = .ok (.goto (-38), 3) := by decide +kernel
theorem dX1_firstWrong_43 : decode cX1_firstWrong 43 = .ok (.iconst (-1), 1) := by decide +kernel
theorem dX1_firstWrong_44 : decode cX1_firstWrong 44 = .ok (.ireturn, 1) := by decide +kernel
abbrev wcX1_firstWrong : List Cond := .code yX1_firstWrong cX1_firstWrong 4 (some .int) :: wsL_law
def lX1_firstWrong_2 : Nat → Nat → Nat → Int32 → hs_S → Option (Nat × Int32 × Int32 × hs_S)
  | 0, _, _, _, _ => none
  | n + 1, v0, v1, v2, g =>
    if hs_kd g v1 = 0 then
    if (hs_I g v1 4) ≤ v2 then (
      some (0, v2, 0, g)
    ) else (
      hs_bd (fX0_method v1 v2 g) fun r3 g2 =>
      if hs_kd g2 v0 = 1 then
      hs_bd (fX1_wrongPlace v0 v1 r3 g2) fun r7 g6 =>
      if r7 = (-1 : Int32) then (
        lX1_firstWrong_2 n v0 v1 (v2 + (1 : Int32)) g6
      ) else (
        some (1, v2, r7, g6)
      )
      else none
    )
    else none
theorem lX1_firstWrong_2_s (n : Nat) (v0 : Nat) (v1 : Nat) (v2 : Int32) (g : hs_S) : lX1_firstWrong_2 (n + 1) v0 v1 v2 g =
    if hs_kd g v1 = 0 then
    if (hs_I g v1 4) ≤ v2 then (
      some (0, v2, 0, g)
    ) else (
      hs_bd (fX0_method v1 v2 g) fun r3 g2 =>
      if hs_kd g2 v0 = 1 then
      hs_bd (fX1_wrongPlace v0 v1 r3 g2) fun r7 g6 =>
      if r7 = (-1 : Int32) then (
        lX1_firstWrong_2 n v0 v1 (v2 + (1 : Int32)) g6
      ) else (
        some (1, v2, r7, g6)
      )
      else none
    )
    else none := rfl
def fX1_firstWrong (v0 : Nat) (v1 : Nat) (g : hs_S) : Option (Int32 × hs_S) :=
  hs_b4 (lX1_firstWrong_2 hs_N v0 v1 (0 : Int32) g) fun k11 x9 x10 g12 =>
  if k11 = 0 then (
    some ((-1 : Int32), g12)
  ) else (
    if hs_kd g12 v1 = 0 then
    hs_bd (fX0_method v1 x9 g12) fun r16 g15 =>
    if hs_kd g15 r16 = 6 then
    some (((hs_I g15 r16 2) + x10), g15)
    else none else none
  )
abbrev rmX1_firstWrong : Room := { frames := 5, cells := 0, slots := 0, locals := 120 }
set_option maxHeartbeats 4000000 in
set_option maxRecDepth 100000 in
theorem wX1_firstWrong_2 {p : Program} {l : Launch} {e : Env} {s : State} {m : MethodId} {args : Array Value} {below : List Frame} {meth : Method} {c : Code} {B : Nat} {D : va_G} {E : Nat → ClassId} (hX : hs_cx cX1_firstWrong (some .int) 4 RX1 wcX1_firstWrong p s m args meth c D E) {Q : State → Prop} {o : Nat × Int32 × Int32 × hs_S} {v0 : Nat} {v1 : Nat} (hex0 : o.1 = 0 → ∀ (H : Heap) (locs : List Loc) (ls : Array Slot), hs_P B D E (o.2.2.2) H → hs_Sx B s.heap H locs → lv_has ls 4 [] → W p l e rmX1_firstWrong s m args below meth c H locs 0 0 Q (F0 m 43 ls [])) (hex1 : o.1 = 1 → ∀ (H : Heap) (locs : List Loc) (ls : Array Slot), hs_P B D E (o.2.2.2) H → hs_Sx B s.heap H locs → lv_has ls 4 [(1, .ref (B + v1)), (2, .int (o.2.1)), (3, .int (o.2.2.1))] → W p l e rmX1_firstWrong s m args below meth c H locs 0 0 Q (F0 m 26 ls [])) : ∀ (n : Nat) (v2 : Int32) (g : hs_S), lX1_firstWrong_2 n v0 v1 v2 g = some o → ∀ (H : Heap) (locs : List Loc) (ls : Array Slot), hs_P B D E g H → hs_Sx B s.heap H locs → lv_has ls 4 [(0, .ref (B + v0)), (1, .ref (B + v1)), (2, .int v2)] → W p l e rmX1_firstWrong s m args below meth c H locs 0 0 Q (F0 m 2 ls []) := by
  obtain ⟨hx, hb, hr, hml, hown, hts, hlocks, hK⟩ := id hX
  intro n
  induction n with
  | zero =>
    intro v2 g hf
    cases hf
  | succ n ih =>
    intro v2 g hf H locs ls hP hS hl
    replace hf := (lX1_firstWrong_2_s n v0 v1 v2 g).symm.trans hf
    refine lv_iload_n hx hb dX1_firstWrong_2 rfl (lv_at hl 2 rfl) ?_
    refine lv_aload_n hx hb dX1_firstWrong_3 rfl (lv_at hl 1 rfl) ?_
    obtain ⟨h1, hf⟩ := hs_ck hf
    refine hs_geti (C := RX0) (T := TX0) (N := 5) hx hb hts (fun w h => List.mem_cons_of_mem _ (inlX0 w h)) hown hK.1 hP h1 (by decide) rfl 4 (by decide) (hts _ (List.mem_cons_of_mem _ wq334)) (fun _ h => h) rfl dX1_firstWrong_4 ?_
    refine lv_icmp_ge (tgt := 43) hx hb dX1_firstWrong_7 (by decide) (fun hc => ?_) (fun hc => ?_)
    · replace hf := hs_t hf hc
      obtain rfl := Option.some.inj hf
      exact hex0 rfl _ _ _ hP hS (lv_sub hl [] rfl)
    · replace hf := hs_f hf hc
      refine lv_aload_n hx hb dX1_firstWrong_10 rfl (lv_at hl 0 rfl) ?_
      refine lv_aload_n hx hb dX1_firstWrong_11 rfl (lv_at hl 1 rfl) ?_
      refine lv_aload_n hx hb dX1_firstWrong_12 rfl (lv_at hl 1 rfl) ?_
      refine lv_iload_n hx hb dX1_firstWrong_13 rfl (lv_at hl 2 rfl) ?_
      obtain ⟨r3, g2, h4, hf⟩ := hs_bd_some hf
      refine hs_callr (va_runV (As := [.int v2]) (rest := [.ref (B + v1), .ref (B + v0)]) ⟨hx, hb, hml, hown, hts⟩ (ctX0_method l B D E v1 v2 g _ h4) (cwV 1 hts (hs_gV (fun _ h => List.mem_cons_of_mem _ h) wq336 wq108 wq109 wq15 wq110) rfl rfl rfl (by decide +kernel) ⟨Nat.le_of_ble_eq_true rfl, Nat.le_of_ble_eq_true rfl⟩) (hs_preV (r := (RX0, TX0, 5)) hP hK h1 (by decide) rfl) rfl rfl hl.1 rfl (lv_room (Nat.le_of_ble_eq_true rfl)) dX1_firstWrong_14 ⟨(Nat.le_of_ble_eq_true rfl), (Nat.le_of_ble_eq_true rfl)⟩) hS (fun H locs hP hS => ?_)
      obtain ⟨h5, hf⟩ := hs_ck hf
      obtain ⟨r7, g6, h8, hf⟩ := hs_bd_some hf
      refine hs_calli (va_runV (As := [.ref (B + v1), .ref (B + r3)]) (rest := []) ⟨hx, hb, hml, hown, hts⟩ (ctX1_wrongPlace l B D E v0 v1 r3 g2 _ h8) (cwV 2 hts (hs_gV (fun _ h => List.mem_cons_of_mem _ h) wq337 wq338 wq339 wq75 wq340) rfl rfl rfl (by decide +kernel) ⟨Nat.le_of_ble_eq_true rfl, Nat.le_of_ble_eq_true rfl⟩) (hs_preV (r := (RX1, TX1, 3)) hP hK h5 (by decide) rfl) rfl rfl hl.1 rfl (lv_room (Nat.le_of_ble_eq_true rfl)) dX1_firstWrong_17 ⟨(Nat.le_of_ble_eq_true rfl), (Nat.le_of_ble_eq_true rfl)⟩) hS (fun H locs hP hS => ?_)
      refine lv_istore_n (lv' := [(3, .int r7), (0, .ref (B + v0)), (1, .ref (B + v1)), (2, .int v2)]) hx hb dX1_firstWrong_20 rfl hl (by decide) rfl (fun ls hl => ?_)
      refine lv_iload_n hx hb dX1_firstWrong_21 rfl (lv_at hl 0 rfl) ?_
      refine lv_iconst (v := -1) hx hb dX1_firstWrong_22 (by decide) ?_
      refine lv_icmp_eq (tgt := 37) hx hb dX1_firstWrong_23 (by decide) (fun hc => ?_) (fun hc => ?_)
      · replace hf := hs_t hf hc
        refine lv_iinc (v := (v2 + (1 : Int32))) (lv' := [(2, .int (v2 + (1 : Int32))), (3, .int r7), (0, .ref (B + v0)), (1, .ref (B + v1))]) hx hb dX1_firstWrong_37 hl (k := 3) rfl (by rfl) (by decide) rfl (fun ls hl => ?_)
        refine lv_goto (tgt := 2) hx hb dX1_firstWrong_40 (by decide) ?_
        exact ih _ _ hf _ _ _ hP hS (lv_sub hl [2, 3, 0] rfl)
      · replace hf := hs_f hf hc
        obtain rfl := Option.some.inj hf
        exact hex1 rfl _ _ _ hP hS (lv_sub hl [2, 3, 0] rfl)

set_option maxHeartbeats 4000000 in
set_option maxRecDepth 100000 in
theorem ctX1_firstWrong (l : Launch) (B : Nat) (D : va_G) (E : Nat → ClassId) (v0 : Nat) (v1 : Nat) (g : hs_S) (o : Int32 × hs_S) (hf : fX1_firstWrong v0 v1 g = some o) : Met l yX1_firstWrong wcX1_firstWrong rmX1_firstWrong (hs_Pc B D E g [.ref (B + v0), .ref (B + v1)]) (hs_Qi B D E o) (0) (0) (hs_F B) := by
  refine Met.ofW (cc := cX1_firstWrong) (maxL := 4) (ret := (some .int)) (by decide) rfl ?_
  intro p e s m args below meth c s₁ Bd hml hv
  obtain ⟨rfl, hP, hK⟩ := hv
  have hx := Bd.exec
  have hb := Bd.bytes
  have hr := Bd.returns
  have hts := atoms_spec (ws := wcX1_firstWrong) Bd.pre
  have hown : s.vm.findClass RX1 = some m.cls := findClass_of_methodNamed Bd.named
  have hlocks := Bd.notSynchronized
  have hS : hs_Sx B s.heap s.heap [] := va_S.rf
  have hX : hs_cx cX1_firstWrong (some .int) 4 RX1 wcX1_firstWrong p s m (List.toArray [.ref (B + v0), .ref (B + v1)]) meth c D E := ⟨hx, hb, hr, hml, hown, hts, hlocks, hK⟩
  have hl := lv_entry ([.ref (B + v0), .ref (B + v1)]) (n := 4) (Nat.le_of_ble_eq_true rfl)
  rw [lg_entry_eq]
  generalize (lg_sl ([.ref (B + v0), .ref (B + v1)]) ++ List.replicate (4 - (lg_sl ([.ref (B + v0), .ref (B + v1)])).length) Slot.unset).toArray = ls at hl ⊢
  have hl : lv_has ls 4 [(0, .ref (B + v0)), (1, .ref (B + v1))] := hl
  have hP : hs_P B D E g s.heap := hP
  unfold fX1_firstWrong at hf
  refine lv_iconst (v := 0) hx hb dX1_firstWrong_0 (by decide) ?_
  refine lv_istore_n (lv' := [(2, .int (0 : Int32)), (0, .ref (B + v0)), (1, .ref (B + v1))]) hx hb dX1_firstWrong_1 rfl hl (by decide) rfl (fun ls hl => ?_)
  obtain ⟨k11, x9, x10, g12, h13, hf⟩ := hs_b4_some hf
  refine wX1_firstWrong_2 hX (fun hlab H locs ls hP hS hl => ?_) (fun hlab H locs ls hP hS hl => ?_) hs_N _ _ h13 _ _ _ hP hS (lv_sub hl [1, 2, 0] rfl)
  · replace hlab : k11 = 0 := hlab
    replace hf := hs_t hf hlab
    refine lv_iconst (v := -1) hx hb dX1_firstWrong_43 (by decide) ?_
    exact hs_iret hx hb hr hlocks rfl hK hP hS hf dX1_firstWrong_44
  · replace hlab : k11 = 1 := hlab
    replace hf := hs_f hf (by rw [hlab]; decide)
    refine lv_aload_n hx hb dX1_firstWrong_26 rfl (lv_at hl 0 rfl) ?_
    refine lv_iload_n hx hb dX1_firstWrong_27 rfl (lv_at hl 1 rfl) ?_
    obtain ⟨h14, hf⟩ := hs_ck hf
    obtain ⟨r16, g15, h17, hf⟩ := hs_bd_some hf
    refine hs_callr (va_runV (As := [.int x9]) (rest := []) ⟨hx, hb, hml, hown, hts⟩ (ctX0_method l B D E v1 x9 g12 _ h17) (cwV 1 hts (hs_gV (fun _ h => List.mem_cons_of_mem _ h) wq336 wq108 wq109 wq15 wq110) rfl rfl rfl (by decide +kernel) ⟨Nat.le_of_ble_eq_true rfl, Nat.le_of_ble_eq_true rfl⟩) (hs_preV (r := (RX0, TX0, 5)) hP hK h14 (by decide) rfl) rfl rfl hl.1 rfl (lv_room (Nat.le_of_ble_eq_true rfl)) dX1_firstWrong_28 ⟨(Nat.le_of_ble_eq_true rfl), (Nat.le_of_ble_eq_true rfl)⟩) hS (fun H locs hP hS => ?_)
    obtain ⟨h18, hf⟩ := hs_ck hf
    refine hs_geti (C := RX7) (T := TX7) (N := 11) hx hb hts (fun w h => List.mem_cons_of_mem _ (inlX7 w h)) hown hK.1 hP h18 (by decide) rfl 2 (by decide) (hts _ (List.mem_cons_of_mem _ wq335)) (fun _ h => h) rfl dX1_firstWrong_31 ?_
    refine lv_iload_n hx hb dX1_firstWrong_34 rfl (lv_at hl 2 rfl) ?_
    refine lv_iadd hx hb dX1_firstWrong_35 ?_
    exact hs_iret hx hb hr hlocks rfl hK hP hS hf dX1_firstWrong_36

theorem dX2_firstWrong_0 : decode cX2_firstWrong 0 = .ok (.aload_n 1, 1) := by decide +kernel
theorem dX2_firstWrong_1 : decode cX2_firstWrong 1 = .ok (.aload_n 1, 1) := by decide +kernel
theorem dX2_firstWrong_2 : decode cX2_firstWrong 2 = .ok (.iconst 0, 1) := by decide +kernel
theorem dX2_firstWrong_3 : decode cX2_firstWrong 3 = .ok (.invokevirtual 18, 3) := by decide +kernel
theorem dX2_firstWrong_6 : decode cX2_firstWrong 6 = .ok (.putfield 24, 3) := by decide +kernel
theorem dX2_firstWrong_9 : decode cX2_firstWrong 9 = .ok (.aload_n 1, 1) := by decide +kernel
theorem dX2_firstWrong_10 : decode cX2_firstWrong 10 = .ok (.getfield 28, 3) := by decide +kernel
theorem dX2_firstWrong_13 : decode cX2_firstWrong 13 = .ok (.iconst 1, 1) := by decide +kernel
theorem dX2_firstWrong_14 : decode cX2_firstWrong 14 = .ok (.if_icmp .lt 20, 3) := by decide +kernel
theorem dX2_firstWrong_17 : decode cX2_firstWrong 17 = .ok (.aload_n 1, 1) := by decide +kernel
theorem dX2_firstWrong_18 : decode cX2_firstWrong 18 = .ok (.getfield 24, 3) := by decide +kernel
theorem dX2_firstWrong_21 : decode cX2_firstWrong 21 = .ok (.iconst 1, 1) := by decide +kernel
theorem dX2_firstWrong_22 : decode cX2_firstWrong 22 = .ok (.if_icmp .lt 12, 3) := by decide +kernel
theorem dX2_firstWrong_25 : decode cX2_firstWrong 25 = .ok (.aload_n 1, 1) := by decide +kernel
theorem dX2_firstWrong_26 : decode cX2_firstWrong 26 = .ok (.getfield 24, 3) := by decide +kernel
theorem dX2_firstWrong_29 : decode cX2_firstWrong 29 = .ok (.bipush 8, 2) := by decide +kernel
theorem dX2_firstWrong_31 : decode cX2_firstWrong 31 = .ok (.if_icmp .le 5, 3) := by decide +kernel
theorem dX2_firstWrong_34 : decode cX2_firstWrong 34 = .ok (.iconst 0, 1) := by decide +kernel
theorem dX2_firstWrong_35 : decode cX2_firstWrong 35 = .ok (.ireturn, 1) := by decide +kernel
theorem dX2_firstWrong_36 : decode cX2_firstWrong 36 = .ok (.iconst 1, 1) := by decide +kernel
theorem dX2_firstWrong_37 : decode cX2_firstWrong 37 = .ok (.istore_n 2, 1) := by decide +kernel
theorem dX2_firstWrong_38 : decode cX2_firstWrong 38 = .ok (.iconst 0, 1) := by decide +kernel
theorem dX2_firstWrong_39 : decode cX2_firstWrong 39 = .ok (.istore_n 3, 1) := by decide +kernel
theorem dX2_firstWrong_40 : decode cX2_firstWrong 40 = .ok (.iload_n 3, 1) := by decide +kernel
theorem dX2_firstWrong_41 : decode cX2_firstWrong 41 = .ok (.aload_n 1, 1) := by decide +kernel
theorem dX2_firstWrong_42 : decode cX2_firstWrong 42 = .ok (.getfield 24, 3) := by decide +kernel
theorem dX2_firstWrong_45 : decode cX2_firstWrong 45 = .ok (.if_icmp .ge 41, 3) := by decide +kernel
theorem dX2_firstWrong_48 : decode cX2_firstWrong 48 = .ok (.aload_n 0, 1) := by decide +kernel
theorem dX2_firstWrong_49 : decode cX2_firstWrong 49 = .ok (.aload_n 1, 1) := by decide +kernel
theorem dX2_firstWrong_50 : decode cX2_firstWrong 50 = .ok (.aload_n 1, 1) := by decide +kernel
theorem dX2_firstWrong_51 : decode cX2_firstWrong 51 = .ok (.iload_n 3, 1) := by decide +kernel
theorem dX2_firstWrong_52 : decode cX2_firstWrong 52 = .ok (.invokevirtual 31, 3) := by decide +kernel
theorem dX2_firstWrong_55 : decode cX2_firstWrong 55 = .ok (.iload_n 2, 1) := by decide +kernel
theorem dX2_firstWrong_56 : decode cX2_firstWrong 56 = .ok (.invokevirtual 35, 3) := by decide +kernel
theorem dX2_firstWrong_59 : decode cX2_firstWrong 59 = .ok (.istore 4, 2) := by decide +kernel
theorem dX2_firstWrong_61 : decode cX2_firstWrong 61 = .ok (.iload 4, 2) := by decide +kernel
theorem dX2_firstWrong_63 : decode cX2_firstWrong 63 = .ok (.iconst (-1), 1) := by decide +kernel
theorem dX2_firstWrong_64 : decode cX2_firstWrong 64 = .ok (.if_icmp .eq 6, 3) := by decide +kernel
theorem dX2_firstWrong_67 : decode cX2_firstWrong 67 = .ok (.iload 4, 2) := by decide +kernel
theorem dX2_firstWrong_69 : decode cX2_firstWrong 69 = .ok (.ireturn, 1) := by decide +kernel
theorem dX2_firstWrong_70 : decode cX2_firstWrong 70 = .ok (.aload_n 0, 1) := by decide +kernel
theorem dX2_firstWrong_71 : decode cX2_firstWrong 71 = .ok (.aload_n 1, 1) := by decide +kernel
theorem dX2_firstWrong_72 : decode cX2_firstWrong 72 = .ok (.iload_n 3, 1) := by decide +kernel
theorem dX2_firstWrong_73 : decode cX2_firstWrong 73 = .ok (.invokevirtual 31, 3) := by decide +kernel
theorem dX2_firstWrong_76 : decode cX2_firstWrong 76 = .ok (.invokevirtual 39, 3) := by decide +kernel
theorem dX2_firstWrong_79 : decode cX2_firstWrong 79 = .ok (.istore_n 2, 1) := by decide +kernel
theorem dX2_firstWrong_80 : decode cX2_firstWrong 80 = .ok (.iinc 3 1, 3) := by decide +kernel
theorem dX2_firstWrong_83 : decode cX2_firstWrong 83 = .ok (.goto (-43), 3) := by decide +kernel
theorem dX2_firstWrong_86 : decode cX2_firstWrong 86 = .ok (.iload_n 2, 1) := by decide +kernel
theorem dX2_firstWrong_87 : decode cX2_firstWrong 87 = .ok (.aload_n 1, 1) := by decide +kernel
theorem dX2_firstWrong_88 : decode cX2_firstWrong 88 = .ok (.getfield 28, 3) := by decide +kernel
theorem dX2_firstWrong_91 : decode cX2_firstWrong 91 = .ok (.if_icmp .ge 7, 3) := by decide +kernel
theorem dX2_firstWrong_94 : decode cX2_firstWrong 94 = .ok (.iload_n 2, 1) := by decide +kernel
theorem dX2_firstWrong_95 : decode cX2_firstWrong 95 = .ok (.goto 11, 3) := by decide +kernel
theorem dX2_firstWrong_98 : decode cX2_firstWrong 98 = .ok (.aload_n 0, 1) := by decide +kernel
theorem dX2_firstWrong_99 : decode cX2_firstWrong 99 = .ok (.getfield 12, 3) := by decide +kernel
theorem dX2_firstWrong_102 : decode cX2_firstWrong 102 = .ok (.aload_n 1, 1) := by decide +kernel
theorem dX2_firstWrong_103 : decode cX2_firstWrong 103 = .ok (.invokevirtual 43, 3) := by decide +kernel
theorem dX2_firstWrong_106 : decode cX2_firstWrong 106 = .ok (.ireturn, 1) := by decide +kernel
abbrev wcX2_firstWrong : List Cond := .code yX2_firstWrong cX2_firstWrong 5 (some .int) :: wsL_law
def lX2_firstWrong_40 : Nat → Nat → Nat → Int32 → Int32 → hs_S → Option (Nat × Int32 × Int32 × hs_S)
  | 0, _, _, _, _, _ => none
  | n + 1, v0, v1, v2, v3, g =>
    if hs_kd g v1 = 0 then
    if (hs_I g v1 4) ≤ v3 then (
      some (0, v2, 0, g)
    ) else (
      hs_bd (fX0_method v1 v3 g) fun r8 g7 =>
      if hs_kd g7 v0 = 2 then
      hs_bd (fX2_wrongInMethod v0 v1 r8 v2 g7) fun r12 g11 =>
      if r12 = (-1 : Int32) then (
        if hs_kd g11 v1 = 0 then
        hs_bd (fX0_method v1 v3 g11) fun r16 g15 =>
        if hs_kd g15 v0 = 2 then
        hs_bd (fX2_endOf v0 r16 g15) fun r20 g19 =>
        lX2_firstWrong_40 n v0 v1 r20 (v3 + (1 : Int32)) g19
        else none else none
      ) else (
        some (1, v2, r12, g11)
      )
      else none
    )
    else none
theorem lX2_firstWrong_40_s (n : Nat) (v0 : Nat) (v1 : Nat) (v2 : Int32) (v3 : Int32) (g : hs_S) : lX2_firstWrong_40 (n + 1) v0 v1 v2 v3 g =
    if hs_kd g v1 = 0 then
    if (hs_I g v1 4) ≤ v3 then (
      some (0, v2, 0, g)
    ) else (
      hs_bd (fX0_method v1 v3 g) fun r8 g7 =>
      if hs_kd g7 v0 = 2 then
      hs_bd (fX2_wrongInMethod v0 v1 r8 v2 g7) fun r12 g11 =>
      if r12 = (-1 : Int32) then (
        if hs_kd g11 v1 = 0 then
        hs_bd (fX0_method v1 v3 g11) fun r16 g15 =>
        if hs_kd g15 v0 = 2 then
        hs_bd (fX2_endOf v0 r16 g15) fun r20 g19 =>
        lX2_firstWrong_40 n v0 v1 r20 (v3 + (1 : Int32)) g19
        else none else none
      ) else (
        some (1, v2, r12, g11)
      )
      else none
    )
    else none := rfl
def fX2_firstWrong (v0 : Nat) (v1 : Nat) (g : hs_S) : Option (Int32 × hs_S) :=
  if hs_kd g v1 = 0 then
  hs_bd (fX0_valueAt v1 (0 : Int32) g) fun r3 g2 =>
  if hs_kd g2 v1 = 0 then
  if (hs_I (hs_wI g2 v1 4 r3) v1 3) < (1 : Int32) then (
    some ((0 : Int32), (hs_wI g2 v1 4 r3))
  ) else (
    if (hs_I (hs_wI g2 v1 4 r3) v1 4) < (1 : Int32) then (
      some ((0 : Int32), (hs_wI g2 v1 4 r3))
    ) else (
      if (hs_I (hs_wI g2 v1 4 r3) v1 4) ≤ (8 : Int32) then (
        hs_b4 (lX2_firstWrong_40 hs_N v0 v1 (1 : Int32) (0 : Int32) (hs_wI g2 v1 4 r3)) fun k24 x22 x23 g25 =>
        if k24 = 0 then (
          if hs_kd g25 v1 = 0 then
          if (hs_I g25 v1 3) ≤ x22 then (
            if hs_kd g25 v0 = 2 then
            if ¬ (hs_R g25 v0 0) = 0 then
            if hs_kd g25 ((hs_R g25 v0 0) - 1) = 1 then
            hs_bd (fX1_firstWrong ((hs_R g25 v0 0) - 1) v1 g25) fun r32 g31 =>
            some (r32, g31)
            else none else none else none
          ) else (
            some (x22, g25)
          )
          else none
        ) else (
          some (x23, g25)
        )
      ) else (
        some ((0 : Int32), (hs_wI g2 v1 4 r3))
      )
    )
  )
  else none else none
abbrev rmX2_firstWrong : Room := { frames := 6, cells := 0, slots := 0, locals := 143 }
set_option maxHeartbeats 4000000 in
set_option maxRecDepth 100000 in
theorem wX2_firstWrong_40 {p : Program} {l : Launch} {e : Env} {s : State} {m : MethodId} {args : Array Value} {below : List Frame} {meth : Method} {c : Code} {B : Nat} {D : va_G} {E : Nat → ClassId} (hX : hs_cx cX2_firstWrong (some .int) 5 RX2 wcX2_firstWrong p s m args meth c D E) {Q : State → Prop} {o : Nat × Int32 × Int32 × hs_S} {v0 : Nat} {v1 : Nat} (hex0 : o.1 = 0 → ∀ (H : Heap) (locs : List Loc) (ls : Array Slot), hs_P B D E (o.2.2.2) H → hs_Sx B s.heap H locs → lv_has ls 5 [(0, .ref (B + v0)), (1, .ref (B + v1)), (2, .int (o.2.1))] → W p l e rmX2_firstWrong s m args below meth c H locs 0 0 Q (F0 m 86 ls [])) (hex1 : o.1 = 1 → ∀ (H : Heap) (locs : List Loc) (ls : Array Slot), hs_P B D E (o.2.2.2) H → hs_Sx B s.heap H locs → lv_has ls 5 [(4, .int (o.2.2.1))] → W p l e rmX2_firstWrong s m args below meth c H locs 0 0 Q (F0 m 67 ls [])) : ∀ (n : Nat) (v2 : Int32) (v3 : Int32) (g : hs_S), lX2_firstWrong_40 n v0 v1 v2 v3 g = some o → ∀ (H : Heap) (locs : List Loc) (ls : Array Slot), hs_P B D E g H → hs_Sx B s.heap H locs → lv_has ls 5 [(0, .ref (B + v0)), (1, .ref (B + v1)), (2, .int v2), (3, .int v3)] → W p l e rmX2_firstWrong s m args below meth c H locs 0 0 Q (F0 m 40 ls []) := by
  obtain ⟨hx, hb, hr, hml, hown, hts, hlocks, hK⟩ := id hX
  intro n
  induction n with
  | zero =>
    intro v2 v3 g hf
    cases hf
  | succ n ih =>
    intro v2 v3 g hf H locs ls hP hS hl
    replace hf := (lX2_firstWrong_40_s n v0 v1 v2 v3 g).symm.trans hf
    refine lv_iload_n hx hb dX2_firstWrong_40 rfl (lv_at hl 3 rfl) ?_
    refine lv_aload_n hx hb dX2_firstWrong_41 rfl (lv_at hl 1 rfl) ?_
    obtain ⟨h6, hf⟩ := hs_ck hf
    refine hs_geti (C := RX0) (T := TX0) (N := 5) hx hb hts (fun w h => List.mem_cons_of_mem _ (inlX0 w h)) hown hK.1 hP h6 (by decide) rfl 4 (by decide) (hts _ (List.mem_cons_of_mem _ wq186)) (fun _ h => h) rfl dX2_firstWrong_42 ?_
    refine lv_icmp_ge (tgt := 86) hx hb dX2_firstWrong_45 (by decide) (fun hc => ?_) (fun hc => ?_)
    · replace hf := hs_t hf hc
      obtain rfl := Option.some.inj hf
      exact hex0 rfl _ _ _ hP hS (lv_sub hl [0, 1, 2] rfl)
    · replace hf := hs_f hf hc
      refine lv_aload_n hx hb dX2_firstWrong_48 rfl (lv_at hl 0 rfl) ?_
      refine lv_aload_n hx hb dX2_firstWrong_49 rfl (lv_at hl 1 rfl) ?_
      refine lv_aload_n hx hb dX2_firstWrong_50 rfl (lv_at hl 1 rfl) ?_
      refine lv_iload_n hx hb dX2_firstWrong_51 rfl (lv_at hl 3 rfl) ?_
      obtain ⟨r8, g7, h9, hf⟩ := hs_bd_some hf
      refine hs_callr (va_runV (As := [.int v3]) (rest := [.ref (B + v1), .ref (B + v0)]) ⟨hx, hb, hml, hown, hts⟩ (ctX0_method l B D E v1 v3 g _ h9) (cwV 1 hts (hs_gV (fun _ h => List.mem_cons_of_mem _ h) wq195 wq108 wq109 wq15 wq110) rfl rfl rfl (by decide +kernel) ⟨Nat.le_of_ble_eq_true rfl, Nat.le_of_ble_eq_true rfl⟩) (hs_preV (r := (RX0, TX0, 5)) hP hK h6 (by decide) rfl) rfl rfl hl.1 rfl (lv_room (Nat.le_of_ble_eq_true rfl)) dX2_firstWrong_52 ⟨(Nat.le_of_ble_eq_true rfl), (Nat.le_of_ble_eq_true rfl)⟩) hS (fun H locs hP hS => ?_)
      refine lv_iload_n hx hb dX2_firstWrong_55 rfl (lv_at hl 2 rfl) ?_
      obtain ⟨h10, hf⟩ := hs_ck hf
      obtain ⟨r12, g11, h13, hf⟩ := hs_bd_some hf
      refine hs_calli (va_runV (As := [.ref (B + v1), .ref (B + r8), .int v2]) (rest := []) ⟨hx, hb, hml, hown, hts⟩ (ctX2_wrongInMethod l B D E v0 v1 r8 v2 g7 _ h13) (cwV 3 hts (hs_gV (fun _ h => List.mem_cons_of_mem _ h) wq196 wq197 wq198 wq26 wq199) rfl rfl rfl (by decide +kernel) ⟨Nat.le_of_ble_eq_true rfl, Nat.le_of_ble_eq_true rfl⟩) (hs_preV (r := (RX2, TX2, 1)) hP hK h10 (by decide) rfl) rfl rfl hl.1 rfl (lv_room (Nat.le_of_ble_eq_true rfl)) dX2_firstWrong_56 ⟨(Nat.le_of_ble_eq_true rfl), (Nat.le_of_ble_eq_true rfl)⟩) hS (fun H locs hP hS => ?_)
      refine lv_istore (lv' := [(4, .int r12), (0, .ref (B + v0)), (1, .ref (B + v1)), (2, .int v2), (3, .int v3)]) hx hb dX2_firstWrong_59 hl (by decide) rfl (fun ls hl => ?_)
      refine lv_iload hx hb dX2_firstWrong_61 (lv_at hl 0 rfl) ?_
      refine lv_iconst (v := -1) hx hb dX2_firstWrong_63 (by decide) ?_
      refine lv_icmp_eq (tgt := 70) hx hb dX2_firstWrong_64 (by decide) (fun hc => ?_) (fun hc => ?_)
      · replace hf := hs_t hf hc
        refine lv_aload_n hx hb dX2_firstWrong_70 rfl (lv_at hl 1 rfl) ?_
        refine lv_aload_n hx hb dX2_firstWrong_71 rfl (lv_at hl 2 rfl) ?_
        refine lv_iload_n hx hb dX2_firstWrong_72 rfl (lv_at hl 4 rfl) ?_
        obtain ⟨h14, hf⟩ := hs_ck hf
        obtain ⟨r16, g15, h17, hf⟩ := hs_bd_some hf
        refine hs_callr (va_runV (As := [.int v3]) (rest := [.ref (B + v0)]) ⟨hx, hb, hml, hown, hts⟩ (ctX0_method l B D E v1 v3 g11 _ h17) (cwV 1 hts (hs_gV (fun _ h => List.mem_cons_of_mem _ h) wq195 wq108 wq109 wq15 wq110) rfl rfl rfl (by decide +kernel) ⟨Nat.le_of_ble_eq_true rfl, Nat.le_of_ble_eq_true rfl⟩) (hs_preV (r := (RX0, TX0, 5)) hP hK h14 (by decide) rfl) rfl rfl hl.1 rfl (lv_room (Nat.le_of_ble_eq_true rfl)) dX2_firstWrong_73 ⟨(Nat.le_of_ble_eq_true rfl), (Nat.le_of_ble_eq_true rfl)⟩) hS (fun H locs hP hS => ?_)
        obtain ⟨h18, hf⟩ := hs_ck hf
        obtain ⟨r20, g19, h21, hf⟩ := hs_bd_some hf
        refine hs_calli (va_runV (As := [.ref (B + r16)]) (rest := []) ⟨hx, hb, hml, hown, hts⟩ (ctX2_endOf l B D E v0 r16 g15 _ h21) (cwV 1 hts (hs_gV (fun _ h => List.mem_cons_of_mem _ h) wq231 wq232 wq233 wq26 wq234) rfl rfl rfl (by decide +kernel) ⟨Nat.le_of_ble_eq_true rfl, Nat.le_of_ble_eq_true rfl⟩) (hs_preV (r := (RX2, TX2, 1)) hP hK h18 (by decide) rfl) rfl rfl hl.1 rfl (lv_room (Nat.le_of_ble_eq_true rfl)) dX2_firstWrong_76 ⟨(Nat.le_of_ble_eq_true rfl), (Nat.le_of_ble_eq_true rfl)⟩) hS (fun H locs hP hS => ?_)
        refine lv_istore_n (lv' := [(2, .int r20), (4, .int r12), (0, .ref (B + v0)), (1, .ref (B + v1)), (3, .int v3)]) hx hb dX2_firstWrong_79 rfl hl (by decide) rfl (fun ls hl => ?_)
        refine lv_iinc (v := (v3 + (1 : Int32))) (lv' := [(3, .int (v3 + (1 : Int32))), (2, .int r20), (4, .int r12), (0, .ref (B + v0)), (1, .ref (B + v1))]) hx hb dX2_firstWrong_80 hl (k := 4) rfl (by rfl) (by decide) rfl (fun ls hl => ?_)
        refine lv_goto (tgt := 40) hx hb dX2_firstWrong_83 (by decide) ?_
        exact ih _ _ _ hf _ _ _ hP hS (lv_sub hl [3, 4, 1, 0] rfl)
      · replace hf := hs_f hf hc
        obtain rfl := Option.some.inj hf
        exact hex1 rfl _ _ _ hP hS (lv_sub hl [0] rfl)

set_option maxHeartbeats 4000000 in
set_option maxRecDepth 100000 in
theorem ctX2_firstWrong (l : Launch) (B : Nat) (D : va_G) (E : Nat → ClassId) (v0 : Nat) (v1 : Nat) (g : hs_S) (o : Int32 × hs_S) (hf : fX2_firstWrong v0 v1 g = some o) : Met l yX2_firstWrong wcX2_firstWrong rmX2_firstWrong (hs_Pc B D E g [.ref (B + v0), .ref (B + v1)]) (hs_Qi B D E o) (0) (0) (hs_F B) := by
  refine Met.ofW (cc := cX2_firstWrong) (maxL := 5) (ret := (some .int)) (by decide) rfl ?_
  intro p e s m args below meth c s₁ Bd hml hv
  obtain ⟨rfl, hP, hK⟩ := hv
  have hx := Bd.exec
  have hb := Bd.bytes
  have hr := Bd.returns
  have hts := atoms_spec (ws := wcX2_firstWrong) Bd.pre
  have hown : s.vm.findClass RX2 = some m.cls := findClass_of_methodNamed Bd.named
  have hlocks := Bd.notSynchronized
  have hS : hs_Sx B s.heap s.heap [] := va_S.rf
  have hX : hs_cx cX2_firstWrong (some .int) 5 RX2 wcX2_firstWrong p s m (List.toArray [.ref (B + v0), .ref (B + v1)]) meth c D E := ⟨hx, hb, hr, hml, hown, hts, hlocks, hK⟩
  have hl := lv_entry ([.ref (B + v0), .ref (B + v1)]) (n := 5) (Nat.le_of_ble_eq_true rfl)
  rw [lg_entry_eq]
  generalize (lg_sl ([.ref (B + v0), .ref (B + v1)]) ++ List.replicate (5 - (lg_sl ([.ref (B + v0), .ref (B + v1)])).length) Slot.unset).toArray = ls at hl ⊢
  have hl : lv_has ls 5 [(0, .ref (B + v0)), (1, .ref (B + v1))] := hl
  have hP : hs_P B D E g s.heap := hP
  unfold fX2_firstWrong at hf
  refine lv_aload_n hx hb dX2_firstWrong_0 rfl (lv_at hl 1 rfl) ?_
  refine lv_aload_n hx hb dX2_firstWrong_1 rfl (lv_at hl 1 rfl) ?_
  refine lv_iconst (v := 0) hx hb dX2_firstWrong_2 (by decide) ?_
  obtain ⟨h1, hf⟩ := hs_ck hf
  obtain ⟨r3, g2, h4, hf⟩ := hs_bd_some hf
  refine hs_calli (va_runV (As := [.int (0 : Int32)]) (rest := [.ref (B + v1)]) ⟨hx, hb, hml, hown, hts⟩ (ctX0_valueAt l B D E v1 (0 : Int32) g _ h4) (cwV 1 hts (hs_gV (fun _ h => List.mem_cons_of_mem _ h) wq188 wq189 wq190 wq15 wq191) rfl rfl rfl (by decide +kernel) ⟨Nat.le_of_ble_eq_true rfl, Nat.le_of_ble_eq_true rfl⟩) (hs_preV (r := (RX0, TX0, 5)) hP hK h1 (by decide) rfl) rfl rfl hl.1 rfl (lv_room (Nat.le_of_ble_eq_true rfl)) dX2_firstWrong_3 ⟨(Nat.le_of_ble_eq_true rfl), (Nat.le_of_ble_eq_true rfl)⟩) hS (fun H locs hP hS => ?_)
  obtain ⟨h5, hf⟩ := hs_ck hf
  refine hs_puti (C := RX0) (T := TX0) (N := 5) hx hb hts (fun w h => List.mem_cons_of_mem _ (inlX0 w h)) tyX0 tyX0_ok nmX0 hown hK.1 hP hS h5 (by decide) rfl 4 (by decide) (hts _ (List.mem_cons_of_mem _ wq186)) (fun _ h => h) (Or.inl rfl) rfl rfl rfl dX2_firstWrong_6 (fun H locs hP hS => ?_)
  refine lv_aload_n hx hb dX2_firstWrong_9 rfl (lv_at hl 1 rfl) ?_
  refine hs_geti (C := RX0) (T := TX0) (N := 5) hx hb hts (fun w h => List.mem_cons_of_mem _ (inlX0 w h)) hown hK.1 hP h5 (by decide) rfl 3 (by decide) (hts _ (List.mem_cons_of_mem _ wq187)) (fun _ h => h) rfl dX2_firstWrong_10 ?_
  refine lv_iconst (v := 1) hx hb dX2_firstWrong_13 (by decide) ?_
  refine lv_icmp_lt (tgt := 34) hx hb dX2_firstWrong_14 (by decide) (fun hc => ?_) (fun hc => ?_)
  · replace hf := hs_t hf hc
    refine lv_iconst (v := 0) hx hb dX2_firstWrong_34 (by decide) ?_
    exact hs_iret hx hb hr hlocks rfl hK hP hS hf dX2_firstWrong_35
  · replace hf := hs_f hf hc
    refine lv_aload_n hx hb dX2_firstWrong_17 rfl (lv_at hl 1 rfl) ?_
    refine hs_geti (C := RX0) (T := TX0) (N := 5) hx hb hts (fun w h => List.mem_cons_of_mem _ (inlX0 w h)) hown hK.1 hP h5 (by decide) rfl 4 (by decide) (hts _ (List.mem_cons_of_mem _ wq186)) (fun _ h => h) rfl dX2_firstWrong_18 ?_
    refine lv_iconst (v := 1) hx hb dX2_firstWrong_21 (by decide) ?_
    refine lv_icmp_lt (tgt := 34) hx hb dX2_firstWrong_22 (by decide) (fun hc => ?_) (fun hc => ?_)
    · replace hf := hs_t hf hc
      refine lv_iconst (v := 0) hx hb dX2_firstWrong_34 (by decide) ?_
      exact hs_iret hx hb hr hlocks rfl hK hP hS hf dX2_firstWrong_35
    · replace hf := hs_f hf hc
      refine lv_aload_n hx hb dX2_firstWrong_25 rfl (lv_at hl 1 rfl) ?_
      refine hs_geti (C := RX0) (T := TX0) (N := 5) hx hb hts (fun w h => List.mem_cons_of_mem _ (inlX0 w h)) hown hK.1 hP h5 (by decide) rfl 4 (by decide) (hts _ (List.mem_cons_of_mem _ wq186)) (fun _ h => h) rfl dX2_firstWrong_26 ?_
      refine lv_bipush (v := 8) hx hb dX2_firstWrong_29 (by decide) ?_
      refine lv_icmp_le (tgt := 36) hx hb dX2_firstWrong_31 (by decide) (fun hc => ?_) (fun hc => ?_)
      · replace hf := hs_t hf hc
        refine lv_iconst (v := 1) hx hb dX2_firstWrong_36 (by decide) ?_
        refine lv_istore_n (lv' := [(2, .int (1 : Int32)), (0, .ref (B + v0)), (1, .ref (B + v1))]) hx hb dX2_firstWrong_37 rfl hl (by decide) rfl (fun ls hl => ?_)
        refine lv_iconst (v := 0) hx hb dX2_firstWrong_38 (by decide) ?_
        refine lv_istore_n (lv' := [(3, .int (0 : Int32)), (2, .int (1 : Int32)), (0, .ref (B + v0)), (1, .ref (B + v1))]) hx hb dX2_firstWrong_39 rfl hl (by decide) rfl (fun ls hl => ?_)
        obtain ⟨k24, x22, x23, g25, h26, hf⟩ := hs_b4_some hf
        refine wX2_firstWrong_40 hX (fun hlab H locs ls hP hS hl => ?_) (fun hlab H locs ls hP hS hl => ?_) hs_N _ _ _ h26 _ _ _ hP hS (lv_sub hl [2, 3, 1, 0] rfl)
        · replace hlab : k24 = 0 := hlab
          replace hf := hs_t hf hlab
          refine lv_iload_n hx hb dX2_firstWrong_86 rfl (lv_at hl 2 rfl) ?_
          refine lv_aload_n hx hb dX2_firstWrong_87 rfl (lv_at hl 1 rfl) ?_
          obtain ⟨h27, hf⟩ := hs_ck hf
          refine hs_geti (C := RX0) (T := TX0) (N := 5) hx hb hts (fun w h => List.mem_cons_of_mem _ (inlX0 w h)) hown hK.1 hP h27 (by decide) rfl 3 (by decide) (hts _ (List.mem_cons_of_mem _ wq187)) (fun _ h => h) rfl dX2_firstWrong_88 ?_
          refine lv_icmp_ge (tgt := 98) hx hb dX2_firstWrong_91 (by decide) (fun hc => ?_) (fun hc => ?_)
          · replace hf := hs_t hf hc
            refine lv_aload_n hx hb dX2_firstWrong_98 rfl (lv_at hl 0 rfl) ?_
            obtain ⟨h28, hf⟩ := hs_ck hf
            obtain ⟨h29, hf⟩ := hs_ck hf
            refine hs_getr (C := RX2) (T := TX2) (N := 1) hx hb hts (fun w h => List.mem_cons_of_mem _ (inlX2 w h)) hown hK.1 hP h28 (by decide) rfl 0 (by decide) (hts _ (List.mem_cons_of_mem _ wq76)) (fun _ h => h) rfl h29 dX2_firstWrong_99 ?_
            refine lv_aload_n hx hb dX2_firstWrong_102 rfl (lv_at hl 1 rfl) ?_
            obtain ⟨h30, hf⟩ := hs_ck hf
            obtain ⟨r32, g31, h33, hf⟩ := hs_bd_some hf
            refine hs_calli (va_runV (As := [.ref (B + v1)]) (rest := []) ⟨hx, hb, hml, hown, hts⟩ (ctX1_firstWrong l B D E ((hs_R g25 v0 0) - 1) v1 g25 _ h33) (cwV 1 hts (hs_gV (fun _ h => List.mem_cons_of_mem _ h) wq330 wq331 wq332 wq75 wq333) rfl rfl rfl (by decide +kernel) ⟨Nat.le_of_ble_eq_true rfl, Nat.le_of_ble_eq_true rfl⟩) (hs_preV (r := (RX1, TX1, 3)) hP hK h30 (by decide) rfl) rfl rfl hl.1 rfl (lv_room (Nat.le_of_ble_eq_true rfl)) dX2_firstWrong_103 ⟨(Nat.le_of_ble_eq_true rfl), (Nat.le_of_ble_eq_true rfl)⟩) hS (fun H locs hP hS => ?_)
            exact hs_iret hx hb hr hlocks rfl hK hP hS hf dX2_firstWrong_106
          · replace hf := hs_f hf hc
            refine lv_iload_n hx hb dX2_firstWrong_94 rfl (lv_at hl 2 rfl) ?_
            refine lv_goto (tgt := 106) hx hb dX2_firstWrong_95 (by decide) ?_
            exact hs_iret hx hb hr hlocks rfl hK hP hS hf dX2_firstWrong_106
        · replace hlab : k24 = 1 := hlab
          replace hf := hs_f hf (by rw [hlab]; decide)
          refine lv_iload hx hb dX2_firstWrong_67 (lv_at hl 0 rfl) ?_
          exact hs_iret hx hb hr hlocks rfl hK hP hS hf dX2_firstWrong_69
      · replace hf := hs_f hf hc
        refine lv_iconst (v := 0) hx hb dX2_firstWrong_34 (by decide) ?_
        exact hs_iret hx hb hr hlocks rfl hK hP hS hf dX2_firstWrong_35

theorem dX0_empty_0 : decode cX0_empty 0 = .ok (.aload_n 0, 1) := by decide +kernel
theorem dX0_empty_1 : decode cX0_empty 1 = .ok (.iconst 0, 1) := by decide +kernel
theorem dX0_empty_2 : decode cX0_empty 2 = .ok (.putfield 28, 3) := by decide +kernel
theorem dX0_empty_5 : decode cX0_empty 5 = .ok (.aload_n 0, 1) := by decide +kernel
theorem dX0_empty_6 : decode cX0_empty 6 = .ok (.iconst 0, 1) := by decide +kernel
theorem dX0_empty_7 : decode cX0_empty 7 = .ok (.putfield 32, 3) := by decide +kernel
theorem dX0_empty_10 : decode cX0_empty 10 = .ok (.return_, 1) := by decide +kernel
abbrev wcX0_empty : List Cond := .code yX0_empty cX0_empty 1 none :: wsL_law
def fX0_empty (v0 : Nat) (g : hs_S) : Option (hs_S) :=
  if hs_kd g v0 = 0 then
  some (hs_wI (hs_wI g v0 3 (0 : Int32)) v0 4 (0 : Int32))
  else none
abbrev rmX0_empty : Room := { frames := 0, cells := 0, slots := 0, locals := 0 }
set_option maxHeartbeats 4000000 in
set_option maxRecDepth 100000 in
theorem ctX0_empty (l : Launch) (B : Nat) (D : va_G) (E : Nat → ClassId) (v0 : Nat) (g : hs_S) (o : hs_S) (hf : fX0_empty v0 g = some o) : Met l yX0_empty wcX0_empty rmX0_empty (hs_Pc B D E g [.ref (B + v0)]) (hs_Qv B D E o) (0) (0) (hs_F B) := by
  refine Met.ofW (cc := cX0_empty) (maxL := 1) (ret := none) (by decide) rfl ?_
  intro p e s m args below meth c s₁ Bd hml hv
  obtain ⟨rfl, hP, hK⟩ := hv
  have hx := Bd.exec
  have hb := Bd.bytes
  have hr := Bd.returns
  have hts := atoms_spec (ws := wcX0_empty) Bd.pre
  have hown : s.vm.findClass RX0 = some m.cls := findClass_of_methodNamed Bd.named
  have hlocks := Bd.notSynchronized
  have hS : hs_Sx B s.heap s.heap [] := va_S.rf
  have hX : hs_cx cX0_empty none 1 RX0 wcX0_empty p s m (List.toArray [.ref (B + v0)]) meth c D E := ⟨hx, hb, hr, hml, hown, hts, hlocks, hK⟩
  have hl := lv_entry ([.ref (B + v0)]) (n := 1) (Nat.le_of_ble_eq_true rfl)
  rw [lg_entry_eq]
  generalize (lg_sl ([.ref (B + v0)]) ++ List.replicate (1 - (lg_sl ([.ref (B + v0)])).length) Slot.unset).toArray = ls at hl ⊢
  have hl : lv_has ls 1 [(0, .ref (B + v0))] := hl
  have hP : hs_P B D E g s.heap := hP
  unfold fX0_empty at hf
  refine lv_aload_n hx hb dX0_empty_0 rfl (lv_at hl 0 rfl) ?_
  refine lv_iconst (v := 0) hx hb dX0_empty_1 (by decide) ?_
  obtain ⟨h1, hf⟩ := hs_ck hf
  refine hs_puti (C := RX0) (T := TX0) (N := 5) hx hb hts (fun w h => List.mem_cons_of_mem _ (inlX0 w h)) tyX0 tyX0_ok nmX0 hown hK.1 hP hS h1 (by decide) rfl 3 (by decide) (hts _ (List.mem_cons_of_mem _ wq170)) (fun _ h => h) (Or.inl rfl) rfl rfl rfl dX0_empty_2 (fun H locs hP hS => ?_)
  refine lv_aload_n hx hb dX0_empty_5 rfl (lv_at hl 0 rfl) ?_
  refine lv_iconst (v := 0) hx hb dX0_empty_6 (by decide) ?_
  refine hs_puti (C := RX0) (T := TX0) (N := 5) hx hb hts (fun w h => List.mem_cons_of_mem _ (inlX0 w h)) tyX0 tyX0_ok nmX0 hown hK.1 hP hS h1 (by decide) rfl 4 (by decide) (hts _ (List.mem_cons_of_mem _ wq278)) (fun _ h => h) (Or.inl rfl) rfl rfl rfl dX0_empty_7 (fun H locs hP hS => ?_)
  exact hs_vret hx hb hr hlocks hK hP hS hf dX0_empty_10

theorem dX11_load_0 : decode cX11_load 0 = .ok (.aload_n 0, 1) := by decide +kernel
theorem dX11_load_1 : decode cX11_load 1 = .ok (.getfield 37, 3) := by decide +kernel
theorem dX11_load_4 : decode cX11_load 4 = .ok (.aload_n 0, 1) := by decide +kernel
theorem dX11_load_5 : decode cX11_load 5 = .ok (.getfield 14, 3) := by decide +kernel
theorem dX11_load_8 : decode cX11_load 8 = .ok (.invokevirtual 64, 3) := by decide +kernel
theorem dX11_load_11 : decode cX11_load 11 = .ok (.istore_n 1, 1) := by decide +kernel
theorem dX11_load_12 : decode cX11_load 12 = .ok (.iload_n 1, 1) := by decide +kernel
theorem dX11_load_13 : decode cX11_load 13 = .ok (.iconst (-1), 1) := by decide +kernel
theorem dX11_load_14 : decode cX11_load 14 = .ok (.if_icmp .ne 28, 3) := by decide +kernel
theorem dX11_load_17 : decode cX11_load 17 = .ok (.aload_n 0, 1) := by decide +kernel
theorem dX11_load_18 : decode cX11_load 18 = .ok (.getfield 18, 3) := by decide +kernel
theorem dX11_load_21 : decode cX11_load 21 = .ok (.astore_n 2, 1) := by decide +kernel
theorem dX11_load_22 : decode cX11_load 22 = .ok (.aload_n 0, 1) := by decide +kernel
theorem dX11_load_23 : decode cX11_load 23 = .ok (.aload_n 0, 1) := by decide +kernel
theorem dX11_load_24 : decode cX11_load 24 = .ok (.getfield 14, 3) := by decide +kernel
theorem dX11_load_27 : decode cX11_load 27 = .ok (.putfield 18, 3) := by decide +kernel
theorem dX11_load_30 : decode cX11_load 30 = .ok (.aload_n 0, 1) := by decide +kernel
theorem dX11_load_31 : decode cX11_load 31 = .ok (.aload_n 2, 1) := by decide +kernel
theorem dX11_load_32 : decode cX11_load 32 = .ok (.putfield 14, 3) := by decide +kernel
theorem dX11_load_35 : decode cX11_load 35 = .ok (.aload_n 0, 1) := by decide +kernel
theorem dX11_load_36 : decode cX11_load 36 = .ok (.getfield 24, 3) := by decide +kernel
theorem dX11_load_39 : decode cX11_load 39 = .ok (.invokevirtual 68, 3) := by decide +kernel
theorem dX11_load_42 : decode cX11_load 42 = .ok (.aload_n 0, 1) := by decide +kernel
theorem dX11_load_43 : decode cX11_load 43 = .ok (.getfield 14, 3) := by decide +kernel
theorem dX11_load_46 : decode cX11_load 46 = .ok (.invokevirtual 68, 3) := by decide +kernel
theorem dX11_load_49 : decode cX11_load 49 = .ok (.iload_n 1, 1) := by decide +kernel
theorem dX11_load_50 : decode cX11_load 50 = .ok (.iconst (-1), 1) := by decide +kernel
theorem dX11_load_51 : decode cX11_load 51 = .ok (.if_icmp .ne 13, 3) := by decide +kernel
theorem dX11_load_54 : decode cX11_load 54 = .ok (.aload_n 0, 1) := by decide +kernel
theorem dX11_load_55 : decode cX11_load 55 = .ok (.getfield 18, 3) := by decide +kernel
theorem dX11_load_58 : decode cX11_load 58 = .ok (.getfield 71, 3) := by decide +kernel
theorem dX11_load_61 : decode cX11_load 61 = .ok (.goto 7, 3) := by decide +kernel
theorem dX11_load_64 : decode cX11_load 64 = .ok (.bipush (-10), 2) := by decide +kernel
theorem dX11_load_66 : decode cX11_load 66 = .ok (.iload_n 1, 1) := by decide +kernel
theorem dX11_load_67 : decode cX11_load 67 = .ok (.isub, 1) := by decide +kernel
theorem dX11_load_68 : decode cX11_load 68 = .ok (.ireturn, 1) := by decide +kernel
abbrev wcX11_load : List Cond := .code yX11_load cX11_load 3 (some .int) :: wsL_law
def jX11_load_42 (v0 : Nat) (v1 : Int32) (g : hs_S) : Option (Int32 × hs_S) :=
  if hs_kd g v0 = 9 then
  if ¬ (hs_R g v0 0) = 0 then
  if hs_kd g ((hs_R g v0 0) - 1) = 0 then
  hs_bv (fX0_empty ((hs_R g v0 0) - 1) g) fun g11 =>
  if v1 = (-1 : Int32) then (
    if hs_kd g11 v0 = 9 then
    if ¬ (hs_R g11 v0 1) = 0 then
    if hs_kd g11 ((hs_R g11 v0 1) - 1) = 0 then
    some ((hs_I g11 ((hs_R g11 v0 1) - 1) 4), g11)
    else none else none else none
  ) else (
    some (((-10 : Int32) - v1), g11)
  )
  else none else none else none
def fX11_load (v0 : Nat) (g : hs_S) : Option (Int32 × hs_S) :=
  if hs_kd g v0 = 9 then
  if ¬ (hs_R g v0 5) = 0 then
  if ¬ (hs_R g v0 0) = 0 then
  if hs_kd g ((hs_R g v0 5) - 1) = 2 then
  hs_bd (fX2_firstWrong ((hs_R g v0 5) - 1) ((hs_R g v0 0) - 1) g) fun r6 g5 =>
  if r6 = (-1 : Int32) then (
    if hs_kd g5 v0 = 9 then
    if ¬ (hs_R g5 v0 1) = 0 then
    if ¬ (hs_R g5 v0 0) = 0 then
    if ¬ (hs_R (hs_wR (hs_wR g5 v0 1 ((hs_R g5 v0 0) - 1)) v0 0 ((hs_R g5 v0 1) - 1)) v0 3) = 0 then
    if hs_kd (hs_wR (hs_wR g5 v0 1 ((hs_R g5 v0 0) - 1)) v0 0 ((hs_R g5 v0 1) - 1)) ((hs_R (hs_wR (hs_wR g5 v0 1 ((hs_R g5 v0 0) - 1)) v0 0 ((hs_R g5 v0 1) - 1)) v0 3) - 1) = 0 then
    hs_bv (fX0_empty ((hs_R (hs_wR (hs_wR g5 v0 1 ((hs_R g5 v0 0) - 1)) v0 0 ((hs_R g5 v0 1) - 1)) v0 3) - 1) (hs_wR (hs_wR g5 v0 1 ((hs_R g5 v0 0) - 1)) v0 0 ((hs_R g5 v0 1) - 1))) fun g22 =>
    jX11_load_42 v0 r6 g22
    else none else none else none else none else none
  ) else (
    jX11_load_42 v0 r6 g5
  )
  else none else none else none else none
abbrev rmX11_load : Room := { frames := 7, cells := 0, slots := 0, locals := 167 }
set_option maxHeartbeats 4000000 in
set_option maxRecDepth 100000 in
theorem wX11_load_j42 {p : Program} {l : Launch} {e : Env} {s : State} {m : MethodId} {args : Array Value} {below : List Frame} {meth : Method} {c : Code} {B : Nat} {D : va_G} {E : Nat → ClassId} (hX : hs_cx cX11_load (some .int) 3 RX11 wcX11_load p s m args meth c D E) {o : Int32 × hs_S}  {v0 : Nat} {v1 : Int32}   {g : hs_S} {H : Heap} {locs : List Loc} {ls : Array Slot} (hf : jX11_load_42 v0 v1 g = some o) (hP : hs_P B D E g H) (hS : hs_Sx B s.heap H locs) (hl : lv_has ls 3 [(0, .ref (B + v0)), (1, .int v1)]) : W p l e rmX11_load s m args below meth c H locs 0 0 (MQ below (hs_Qi B D E o) args s 0 0 (hs_F B)) (F0 m 42 ls []) := by
  obtain ⟨hx, hb, hr, hml, hown, hts, hlocks, hK⟩ := id hX
  unfold jX11_load_42 at hf
  refine lv_aload_n hx hb dX11_load_42 rfl (lv_at hl 0 rfl) ?_
  obtain ⟨h8, hf⟩ := hs_ck hf
  obtain ⟨h9, hf⟩ := hs_ck hf
  refine hs_getr (C := RX11) (T := TX11) (N := 8) hx hb hts (fun w h => List.mem_cons_of_mem _ (inlX11 w h)) hown hK.1 hP h8 (by decide) rfl 0 (by decide) (hts _ (List.mem_cons_of_mem _ wq16)) (fun _ h => h) rfl h9 dX11_load_43 ?_
  obtain ⟨h10, hf⟩ := hs_ck hf
  obtain ⟨g11, h13, hf⟩ := hs_bv_some hf
  refine hs_callv (va_runV (As := []) (rest := []) ⟨hx, hb, hml, hown, hts⟩ (ctX0_empty l B D E ((hs_R g v0 0) - 1) g _ h13) (cwV 0 hts (hs_gV (fun _ h => List.mem_cons_of_mem _ h) wq384 wq385 wq386 wq15 wq387) rfl rfl rfl (by decide +kernel) ⟨Nat.le_of_ble_eq_true rfl, Nat.le_of_ble_eq_true rfl⟩) (hs_preV (r := (RX0, TX0, 5)) hP hK h10 (by decide) rfl) rfl rfl hl.1 rfl (lv_room (Nat.le_of_ble_eq_true rfl)) dX11_load_46 ⟨(Nat.le_of_ble_eq_true rfl), (Nat.le_of_ble_eq_true rfl)⟩) hS (fun H locs hP hS => ?_)
  refine lv_iload_n hx hb dX11_load_49 rfl (lv_at hl 1 rfl) ?_
  refine lv_iconst (v := -1) hx hb dX11_load_50 (by decide) ?_
  refine lv_icmp_ne (tgt := 64) hx hb dX11_load_51 (by decide) (fun hc => ?_) (fun hc => ?_)
  · replace hf := hs_f hf hc
    refine lv_bipush (v := -10) hx hb dX11_load_64 (by decide) ?_
    refine lv_iload_n hx hb dX11_load_66 rfl (lv_at hl 1 rfl) ?_
    refine lv_isub hx hb dX11_load_67 ?_
    exact hs_iret hx hb hr hlocks rfl hK hP hS hf dX11_load_68
  · replace hf := hs_t hf hc
    refine lv_aload_n hx hb dX11_load_54 rfl (lv_at hl 0 rfl) ?_
    obtain ⟨h14, hf⟩ := hs_ck hf
    obtain ⟨h15, hf⟩ := hs_ck hf
    refine hs_getr (C := RX11) (T := TX11) (N := 8) hx hb hts (fun w h => List.mem_cons_of_mem _ (inlX11 w h)) hown hK.1 hP h14 (by decide) rfl 1 (by decide) (hts _ (List.mem_cons_of_mem _ wq17)) (fun _ h => h) rfl h15 dX11_load_55 ?_
    obtain ⟨h16, hf⟩ := hs_ck hf
    refine hs_geti (C := RX0) (T := TX0) (N := 5) hx hb hts (fun w h => List.mem_cons_of_mem _ (inlX0 w h)) hown hK.1 hP h16 (by decide) rfl 4 (by decide) (hts _ (List.mem_cons_of_mem _ wq181)) (fun _ h => h) rfl dX11_load_58 ?_
    refine lv_goto (tgt := 68) hx hb dX11_load_61 (by decide) ?_
    exact hs_iret hx hb hr hlocks rfl hK hP hS hf dX11_load_68

set_option maxHeartbeats 4000000 in
set_option maxRecDepth 100000 in
theorem ctX11_load (l : Launch) (B : Nat) (D : va_G) (E : Nat → ClassId) (v0 : Nat) (g : hs_S) (o : Int32 × hs_S) (hf : fX11_load v0 g = some o) : Met l yX11_load wcX11_load rmX11_load (hs_Pc B D E g [.ref (B + v0)]) (hs_Qi B D E o) (0) (0) (hs_F B) := by
  refine Met.ofW (cc := cX11_load) (maxL := 3) (ret := (some .int)) (by decide) rfl ?_
  intro p e s m args below meth c s₁ Bd hml hv
  obtain ⟨rfl, hP, hK⟩ := hv
  have hx := Bd.exec
  have hb := Bd.bytes
  have hr := Bd.returns
  have hts := atoms_spec (ws := wcX11_load) Bd.pre
  have hown : s.vm.findClass RX11 = some m.cls := findClass_of_methodNamed Bd.named
  have hlocks := Bd.notSynchronized
  have hS : hs_Sx B s.heap s.heap [] := va_S.rf
  have hX : hs_cx cX11_load (some .int) 3 RX11 wcX11_load p s m (List.toArray [.ref (B + v0)]) meth c D E := ⟨hx, hb, hr, hml, hown, hts, hlocks, hK⟩
  have hl := lv_entry ([.ref (B + v0)]) (n := 3) (Nat.le_of_ble_eq_true rfl)
  rw [lg_entry_eq]
  generalize (lg_sl ([.ref (B + v0)]) ++ List.replicate (3 - (lg_sl ([.ref (B + v0)])).length) Slot.unset).toArray = ls at hl ⊢
  have hl : lv_has ls 3 [(0, .ref (B + v0))] := hl
  have hP : hs_P B D E g s.heap := hP
  unfold fX11_load at hf
  refine lv_aload_n hx hb dX11_load_0 rfl (lv_at hl 0 rfl) ?_
  obtain ⟨h1, hf⟩ := hs_ck hf
  obtain ⟨h2, hf⟩ := hs_ck hf
  refine hs_getr (C := RX11) (T := TX11) (N := 8) hx hb hts (fun w h => List.mem_cons_of_mem _ (inlX11 w h)) hown hK.1 hP h1 (by decide) rfl 5 (by decide) (hts _ (List.mem_cons_of_mem _ wq27)) (fun _ h => h) rfl h2 dX11_load_1 ?_
  refine lv_aload_n hx hb dX11_load_4 rfl (lv_at hl 0 rfl) ?_
  obtain ⟨h3, hf⟩ := hs_ck hf
  refine hs_getr (C := RX11) (T := TX11) (N := 8) hx hb hts (fun w h => List.mem_cons_of_mem _ (inlX11 w h)) hown hK.1 hP h1 (by decide) rfl 0 (by decide) (hts _ (List.mem_cons_of_mem _ wq16)) (fun _ h => h) rfl h3 dX11_load_5 ?_
  obtain ⟨h4, hf⟩ := hs_ck hf
  obtain ⟨r6, g5, h7, hf⟩ := hs_bd_some hf
  refine hs_calli (va_runV (As := [.ref (B + ((hs_R g v0 0) - 1))]) (rest := []) ⟨hx, hb, hml, hown, hts⟩ (ctX2_firstWrong l B D E ((hs_R g v0 5) - 1) ((hs_R g v0 0) - 1) g _ h7) (cwV 1 hts (hs_gV (fun _ h => List.mem_cons_of_mem _ h) wq182 wq183 wq184 wq26 wq185) rfl rfl rfl (by decide +kernel) ⟨Nat.le_of_ble_eq_true rfl, Nat.le_of_ble_eq_true rfl⟩) (hs_preV (r := (RX2, TX2, 1)) hP hK h4 (by decide) rfl) rfl rfl hl.1 rfl (lv_room (Nat.le_of_ble_eq_true rfl)) dX11_load_8 ⟨(Nat.le_of_ble_eq_true rfl), (Nat.le_of_ble_eq_true rfl)⟩) hS (fun H locs hP hS => ?_)
  refine lv_istore_n (lv' := [(1, .int r6), (0, .ref (B + v0))]) hx hb dX11_load_11 rfl hl (by decide) rfl (fun ls hl => ?_)
  refine lv_iload_n hx hb dX11_load_12 rfl (lv_at hl 0 rfl) ?_
  refine lv_iconst (v := -1) hx hb dX11_load_13 (by decide) ?_
  refine lv_icmp_ne (tgt := 42) hx hb dX11_load_14 (by decide) (fun hc => ?_) (fun hc => ?_)
  · replace hf := hs_f hf hc
    exact wX11_load_j42 hX hf hP hS (lv_sub hl [1, 0] rfl)
  · replace hf := hs_t hf hc
    refine lv_aload_n hx hb dX11_load_17 rfl (lv_at hl 1 rfl) ?_
    obtain ⟨h17, hf⟩ := hs_ck hf
    obtain ⟨h18, hf⟩ := hs_ck hf
    refine hs_getr (C := RX11) (T := TX11) (N := 8) hx hb hts (fun w h => List.mem_cons_of_mem _ (inlX11 w h)) hown hK.1 hP h17 (by decide) rfl 1 (by decide) (hts _ (List.mem_cons_of_mem _ wq17)) (fun _ h => h) rfl h18 dX11_load_18 ?_
    refine lv_astore_n (lv' := [(2, .ref (B + ((hs_R g5 v0 1) - 1))), (1, .int r6), (0, .ref (B + v0))]) hx hb dX11_load_21 rfl hl (by decide) rfl (fun ls hl => ?_)
    refine lv_aload_n hx hb dX11_load_22 rfl (lv_at hl 2 rfl) ?_
    refine lv_aload_n hx hb dX11_load_23 rfl (lv_at hl 2 rfl) ?_
    obtain ⟨h19, hf⟩ := hs_ck hf
    refine hs_getr (C := RX11) (T := TX11) (N := 8) hx hb hts (fun w h => List.mem_cons_of_mem _ (inlX11 w h)) hown hK.1 hP h17 (by decide) rfl 0 (by decide) (hts _ (List.mem_cons_of_mem _ wq16)) (fun _ h => h) rfl h19 dX11_load_24 ?_
    refine hs_putr (C := RX11) (T := TX11) (N := 8) hx hb hts (fun w h => List.mem_cons_of_mem _ (inlX11 w h)) tyX11 tyX11_ok nmX11 hown hK.1 hP hS h17 (by decide) rfl 1 (by decide) (hts _ (List.mem_cons_of_mem _ wq17)) (fun _ h => h) (Or.inl rfl) (fun _ => rfl) (fun _ => rfl) rfl dX11_load_27 (fun H locs hP hS => ?_)
    refine lv_aload_n hx hb dX11_load_30 rfl (lv_at hl 2 rfl) ?_
    refine lv_aload_n hx hb dX11_load_31 rfl (lv_at hl 0 rfl) ?_
    refine hs_putr (C := RX11) (T := TX11) (N := 8) hx hb hts (fun w h => List.mem_cons_of_mem _ (inlX11 w h)) tyX11 tyX11_ok nmX11 hown hK.1 hP hS h17 (by decide) rfl 0 (by decide) (hts _ (List.mem_cons_of_mem _ wq16)) (fun _ h => h) (Or.inl rfl) (fun _ => rfl) (fun _ => rfl) rfl dX11_load_32 (fun H locs hP hS => ?_)
    refine lv_aload_n hx hb dX11_load_35 rfl (lv_at hl 2 rfl) ?_
    obtain ⟨h20, hf⟩ := hs_ck hf
    refine hs_getr (C := RX11) (T := TX11) (N := 8) hx hb hts (fun w h => List.mem_cons_of_mem _ (inlX11 w h)) hown hK.1 hP h17 (by decide) rfl 3 (by decide) (hts _ (List.mem_cons_of_mem _ wq19)) (fun _ h => h) rfl h20 dX11_load_36 ?_
    obtain ⟨h21, hf⟩ := hs_ck hf
    obtain ⟨g22, h24, hf⟩ := hs_bv_some hf
    refine hs_callv (va_runV (As := []) (rest := []) ⟨hx, hb, hml, hown, hts⟩ (ctX0_empty l B D E ((hs_R (hs_wR (hs_wR g5 v0 1 ((hs_R g5 v0 0) - 1)) v0 0 ((hs_R g5 v0 1) - 1)) v0 3) - 1) (hs_wR (hs_wR g5 v0 1 ((hs_R g5 v0 0) - 1)) v0 0 ((hs_R g5 v0 1) - 1)) _ h24) (cwV 0 hts (hs_gV (fun _ h => List.mem_cons_of_mem _ h) wq384 wq385 wq386 wq15 wq387) rfl rfl rfl (by decide +kernel) ⟨Nat.le_of_ble_eq_true rfl, Nat.le_of_ble_eq_true rfl⟩) (hs_preV (r := (RX0, TX0, 5)) hP hK h21 (by decide) rfl) rfl rfl hl.1 rfl (lv_room (Nat.le_of_ble_eq_true rfl)) dX11_load_39 ⟨(Nat.le_of_ble_eq_true rfl), (Nat.le_of_ble_eq_true rfl)⟩) hS (fun H locs hP hS => ?_)
    exact wX11_load_j42 hX hf hP hS (lv_sub hl [2, 1] rfl)

theorem dX8_of_0 : decode cX8_of 0 = .ok (.aload_n 0, 1) := by decide +kernel
theorem dX8_of_1 : decode cX8_of 1 = .ok (.getfield 9, 3) := by decide +kernel
theorem dX8_of_4 : decode cX8_of 4 = .ok (.iload_n 1, 1) := by decide +kernel
theorem dX8_of_5 : decode cX8_of 5 = .ok (.invokestatic 30, 3) := by decide +kernel
theorem dX8_of_8 : decode cX8_of 8 = .ok (.ireturn, 1) := by decide +kernel
abbrev wcX8_of : List Cond := .code yX8_of cX8_of 2 (some .int) :: wsL_law
def fX8_of (v0 : Nat) (v1 : Int32) (g : hs_S) : Option (Int32 × hs_S) :=
  if hs_kd g v0 = 7 then
  if ¬ (hs_R g v0 0) = 0 then
  hs_bd (fX9_at ((hs_R g v0 0) - 1) v1 g) fun r4 g3 =>
  some (r4, g3)
  else none else none
abbrev rmX8_of : Room := { frames := 1, cells := 0, slots := 0, locals := 21 }
set_option maxHeartbeats 4000000 in
set_option maxRecDepth 100000 in
theorem ctX8_of (l : Launch) (B : Nat) (D : va_G) (E : Nat → ClassId) (v0 : Nat) (v1 : Int32) (g : hs_S) (o : Int32 × hs_S) (hf : fX8_of v0 v1 g = some o) : Met l yX8_of wcX8_of rmX8_of (hs_Pc B D E g [.ref (B + v0), .int v1]) (hs_Qi B D E o) (0) (0) (hs_F B) := by
  refine Met.ofW (cc := cX8_of) (maxL := 2) (ret := (some .int)) (by decide) rfl ?_
  intro p e s m args below meth c s₁ Bd hml hv
  obtain ⟨rfl, hP, hK⟩ := hv
  have hx := Bd.exec
  have hb := Bd.bytes
  have hr := Bd.returns
  have hts := atoms_spec (ws := wcX8_of) Bd.pre
  have hown : s.vm.findClass RX8 = some m.cls := findClass_of_methodNamed Bd.named
  have hlocks := Bd.notSynchronized
  have hS : hs_Sx B s.heap s.heap [] := va_S.rf
  have hX : hs_cx cX8_of (some .int) 2 RX8 wcX8_of p s m (List.toArray [.ref (B + v0), .int v1]) meth c D E := ⟨hx, hb, hr, hml, hown, hts, hlocks, hK⟩
  have hl := lv_entry ([.ref (B + v0), .int v1]) (n := 2) (Nat.le_of_ble_eq_true rfl)
  rw [lg_entry_eq]
  generalize (lg_sl ([.ref (B + v0), .int v1]) ++ List.replicate (2 - (lg_sl ([.ref (B + v0), .int v1])).length) Slot.unset).toArray = ls at hl ⊢
  have hl : lv_has ls 2 [(0, .ref (B + v0)), (1, .int v1)] := hl
  have hP : hs_P B D E g s.heap := hP
  unfold fX8_of at hf
  refine lv_aload_n hx hb dX8_of_0 rfl (lv_at hl 0 rfl) ?_
  obtain ⟨h1, hf⟩ := hs_ck hf
  obtain ⟨h2, hf⟩ := hs_ck hf
  refine hs_getr (C := RX8) (T := TX8) (N := 1) hx hb hts (fun w h => List.mem_cons_of_mem _ (inlX8 w h)) hown hK.1 hP h1 (by decide) rfl 0 (by decide) (hts _ (List.mem_cons_of_mem _ wq57)) (fun _ h => h) rfl h2 dX8_of_1 ?_
  refine lv_iload_n hx hb dX8_of_4 rfl (lv_at hl 1 rfl) ?_
  obtain ⟨r4, g3, h5, hf⟩ := hs_bd_some hf
  refine hs_calli (va_runS (As := [.ref (B + ((hs_R g v0 0) - 1)), .int v1]) (rest := []) ⟨hx, hb, hml, hown, hts⟩ (ctX9_at l B D E ((hs_R g v0 0) - 1) v1 g _ h5) (va_cwS 2 hts (hs_gS (fun _ h => List.mem_cons_of_mem _ h) wq475 wq193 wq68 wq194) rfl rfl rfl (by decide +kernel) ⟨Nat.le_of_ble_eq_true rfl, Nat.le_of_ble_eq_true rfl⟩) (hs_pre hP hK) rfl rfl hl.1 rfl (lv_room (Nat.le_of_ble_eq_true rfl)) dX8_of_5 ⟨(Nat.le_of_ble_eq_true rfl), (Nat.le_of_ble_eq_true rfl)⟩) hS (fun H locs hP hS => ?_)
  exact hs_iret hx hb hr hlocks rfl hK hP hS hf dX8_of_8

theorem dX8_become_0 : decode cX8_become 0 = .ok (.aload_n 0, 1) := by decide +kernel
theorem dX8_become_1 : decode cX8_become 1 = .ok (.getfield 9, 3) := by decide +kernel
theorem dX8_become_4 : decode cX8_become 4 = .ok (.iload_n 1, 1) := by decide +kernel
theorem dX8_become_5 : decode cX8_become 5 = .ok (.iload_n 2, 1) := by decide +kernel
theorem dX8_become_6 : decode cX8_become 6 = .ok (.invokestatic 24, 3) := by decide +kernel
theorem dX8_become_9 : decode cX8_become 9 = .ok (.return_, 1) := by decide +kernel
abbrev wcX8_become : List Cond := .code yX8_become cX8_become 3 none :: wsL_law
def fX8_become (v0 : Nat) (v1 : Int32) (v2 : Int32) (g : hs_S) : Option (hs_S) :=
  if hs_kd g v0 = 7 then
  if ¬ (hs_R g v0 0) = 0 then
  hs_bv (fX9_put ((hs_R g v0 0) - 1) v1 v2 g) fun g3 =>
  some g3
  else none else none
abbrev rmX8_become : Room := { frames := 1, cells := 0, slots := 0, locals := 22 }
set_option maxHeartbeats 4000000 in
set_option maxRecDepth 100000 in
theorem ctX8_become (l : Launch) (B : Nat) (D : va_G) (E : Nat → ClassId) (v0 : Nat) (v1 : Int32) (v2 : Int32) (g : hs_S) (o : hs_S) (hf : fX8_become v0 v1 v2 g = some o) : Met l yX8_become wcX8_become rmX8_become (hs_Pc B D E g [.ref (B + v0), .int v1, .int v2]) (hs_Qv B D E o) (0) (0) (hs_F B) := by
  refine Met.ofW (cc := cX8_become) (maxL := 3) (ret := none) (by decide) rfl ?_
  intro p e s m args below meth c s₁ Bd hml hv
  obtain ⟨rfl, hP, hK⟩ := hv
  have hx := Bd.exec
  have hb := Bd.bytes
  have hr := Bd.returns
  have hts := atoms_spec (ws := wcX8_become) Bd.pre
  have hown : s.vm.findClass RX8 = some m.cls := findClass_of_methodNamed Bd.named
  have hlocks := Bd.notSynchronized
  have hS : hs_Sx B s.heap s.heap [] := va_S.rf
  have hX : hs_cx cX8_become none 3 RX8 wcX8_become p s m (List.toArray [.ref (B + v0), .int v1, .int v2]) meth c D E := ⟨hx, hb, hr, hml, hown, hts, hlocks, hK⟩
  have hl := lv_entry ([.ref (B + v0), .int v1, .int v2]) (n := 3) (Nat.le_of_ble_eq_true rfl)
  rw [lg_entry_eq]
  generalize (lg_sl ([.ref (B + v0), .int v1, .int v2]) ++ List.replicate (3 - (lg_sl ([.ref (B + v0), .int v1, .int v2])).length) Slot.unset).toArray = ls at hl ⊢
  have hl : lv_has ls 3 [(0, .ref (B + v0)), (1, .int v1), (2, .int v2)] := hl
  have hP : hs_P B D E g s.heap := hP
  unfold fX8_become at hf
  refine lv_aload_n hx hb dX8_become_0 rfl (lv_at hl 0 rfl) ?_
  obtain ⟨h1, hf⟩ := hs_ck hf
  obtain ⟨h2, hf⟩ := hs_ck hf
  refine hs_getr (C := RX8) (T := TX8) (N := 1) hx hb hts (fun w h => List.mem_cons_of_mem _ (inlX8 w h)) hown hK.1 hP h1 (by decide) rfl 0 (by decide) (hts _ (List.mem_cons_of_mem _ wq57)) (fun _ h => h) rfl h2 dX8_become_1 ?_
  refine lv_iload_n hx hb dX8_become_4 rfl (lv_at hl 1 rfl) ?_
  refine lv_iload_n hx hb dX8_become_5 rfl (lv_at hl 2 rfl) ?_
  obtain ⟨g3, h5, hf⟩ := hs_bv_some hf
  refine hs_callv (va_runS (As := [.ref (B + ((hs_R g v0 0) - 1)), .int v1, .int v2]) (rest := []) ⟨hx, hb, hml, hown, hts⟩ (ctX9_put l B D E ((hs_R g v0 0) - 1) v1 v2 g _ h5) (va_cwS 3 hts (hs_gS (fun _ h => List.mem_cons_of_mem _ h) wq66 wq67 wq68 wq69) rfl rfl rfl (by decide +kernel) ⟨Nat.le_of_ble_eq_true rfl, Nat.le_of_ble_eq_true rfl⟩) (hs_pre hP hK) rfl rfl hl.1 rfl (lv_room (Nat.le_of_ble_eq_true rfl)) dX8_become_6 ⟨(Nat.le_of_ble_eq_true rfl), (Nat.le_of_ble_eq_true rfl)⟩) hS (fun H locs hP hS => ?_)
  exact hs_vret hx hb hr hlocks hK hP hS hf dX8_become_9

theorem dX11_price_0 : decode cX11_price 0 = .ok (.iload_n 1, 1) := by decide +kernel
theorem dX11_price_1 : decode cX11_price 1 = .ok (.invokestatic 74, 3) := by decide +kernel
theorem dX11_price_4 : decode cX11_price 4 = .ok (.ifCond .eq 14, 3) := by decide +kernel
theorem dX11_price_7 : decode cX11_price 7 = .ok (.iload_n 2, 1) := by decide +kernel
theorem dX11_price_8 : decode cX11_price 8 = .ok (.ifCond .lt 10, 3) := by decide +kernel
theorem dX11_price_11 : decode cX11_price 11 = .ok (.iload_n 2, 1) := by decide +kernel
theorem dX11_price_12 : decode cX11_price 12 = .ok (.sipush 1000, 3) := by decide +kernel
theorem dX11_price_15 : decode cX11_price 15 = .ok (.if_icmp .le 6, 3) := by decide +kernel
theorem dX11_price_18 : decode cX11_price 18 = .ok (.bipush (-3), 2) := by decide +kernel
theorem dX11_price_20 : decode cX11_price 20 = .ok (.ireturn, 1) := by decide +kernel
theorem dX11_price_21 : decode cX11_price 21 = .ok (.aload_n 0, 1) := by decide +kernel
theorem dX11_price_22 : decode cX11_price 22 = .ok (.getfield 30, 3) := by decide +kernel
theorem dX11_price_25 : decode cX11_price 25 = .ok (.iload_n 1, 1) := by decide +kernel
theorem dX11_price_26 : decode cX11_price 26 = .ok (.invokevirtual 80, 3) := by decide +kernel
theorem dX11_price_29 : decode cX11_price 29 = .ok (.istore_n 3, 1) := by decide +kernel
theorem dX11_price_30 : decode cX11_price 30 = .ok (.aload_n 0, 1) := by decide +kernel
theorem dX11_price_31 : decode cX11_price 31 = .ok (.getfield 30, 3) := by decide +kernel
theorem dX11_price_34 : decode cX11_price 34 = .ok (.iload_n 1, 1) := by decide +kernel
theorem dX11_price_35 : decode cX11_price 35 = .ok (.iload_n 2, 1) := by decide +kernel
theorem dX11_price_36 : decode cX11_price 36 = .ok (.invokevirtual 83, 3) := by decide +kernel
theorem dX11_price_39 : decode cX11_price 39 = .ok (.iload_n 3, 1) := by decide +kernel
theorem dX11_price_40 : decode cX11_price 40 = .ok (.ireturn, 1) := by decide +kernel
abbrev wcX11_price : List Cond := .code yX11_price cX11_price 4 (some .int) :: wsL_law
def fX11_price (v0 : Nat) (v1 : Int32) (v2 : Int32) (g : hs_S) : Option (Int32 × hs_S) :=
  hs_bd (fX4_sizeOf v1 g) fun r2 g1 =>
  if r2 = 0 then (
    some ((-3 : Int32), g1)
  ) else (
    if v2 < 0 then (
      some ((-3 : Int32), g1)
    ) else (
      if v2 ≤ (1000 : Int32) then (
        if hs_kd g1 v0 = 9 then
        if ¬ (hs_R g1 v0 4) = 0 then
        if hs_kd g1 ((hs_R g1 v0 4) - 1) = 7 then
        hs_bd (fX8_of ((hs_R g1 v0 4) - 1) v1 g1) fun r8 g7 =>
        if hs_kd g7 v0 = 9 then
        if ¬ (hs_R g7 v0 4) = 0 then
        if hs_kd g7 ((hs_R g7 v0 4) - 1) = 7 then
        hs_bv (fX8_become ((hs_R g7 v0 4) - 1) v1 v2 g7) fun g13 =>
        some (r8, g13)
        else none else none else none else none else none else none
      ) else (
        some ((-3 : Int32), g1)
      )
    )
  )
abbrev rmX11_price : Room := { frames := 2, cells := 0, slots := 0, locals := 44 }
set_option maxHeartbeats 4000000 in
set_option maxRecDepth 100000 in
theorem ctX11_price (l : Launch) (B : Nat) (D : va_G) (E : Nat → ClassId) (v0 : Nat) (v1 : Int32) (v2 : Int32) (g : hs_S) (o : Int32 × hs_S) (hf : fX11_price v0 v1 v2 g = some o) : Met l yX11_price wcX11_price rmX11_price (hs_Pc B D E g [.ref (B + v0), .int v1, .int v2]) (hs_Qi B D E o) (0) (0) (hs_F B) := by
  refine Met.ofW (cc := cX11_price) (maxL := 4) (ret := (some .int)) (by decide) rfl ?_
  intro p e s m args below meth c s₁ Bd hml hv
  obtain ⟨rfl, hP, hK⟩ := hv
  have hx := Bd.exec
  have hb := Bd.bytes
  have hr := Bd.returns
  have hts := atoms_spec (ws := wcX11_price) Bd.pre
  have hown : s.vm.findClass RX11 = some m.cls := findClass_of_methodNamed Bd.named
  have hlocks := Bd.notSynchronized
  have hS : hs_Sx B s.heap s.heap [] := va_S.rf
  have hX : hs_cx cX11_price (some .int) 4 RX11 wcX11_price p s m (List.toArray [.ref (B + v0), .int v1, .int v2]) meth c D E := ⟨hx, hb, hr, hml, hown, hts, hlocks, hK⟩
  have hl := lv_entry ([.ref (B + v0), .int v1, .int v2]) (n := 4) (Nat.le_of_ble_eq_true rfl)
  rw [lg_entry_eq]
  generalize (lg_sl ([.ref (B + v0), .int v1, .int v2]) ++ List.replicate (4 - (lg_sl ([.ref (B + v0), .int v1, .int v2])).length) Slot.unset).toArray = ls at hl ⊢
  have hl : lv_has ls 4 [(0, .ref (B + v0)), (1, .int v1), (2, .int v2)] := hl
  have hP : hs_P B D E g s.heap := hP
  unfold fX11_price at hf
  refine lv_iload_n hx hb dX11_price_0 rfl (lv_at hl 1 rfl) ?_
  obtain ⟨r2, g1, h3, hf⟩ := hs_bd_some hf
  refine hs_calli (va_runS (As := [.int v1]) (rest := []) ⟨hx, hb, hml, hown, hts⟩ (ctX4_sizeOf l B D E v1 g _ h3) (va_cwS 1 hts (hs_gS (fun _ h => List.mem_cons_of_mem _ h) wq470 wq257 wq258 wq259) rfl rfl rfl (by decide +kernel) ⟨Nat.le_of_ble_eq_true rfl, Nat.le_of_ble_eq_true rfl⟩) (hs_pre hP hK) rfl rfl hl.1 rfl (lv_room (Nat.le_of_ble_eq_true rfl)) dX11_price_1 ⟨(Nat.le_of_ble_eq_true rfl), (Nat.le_of_ble_eq_true rfl)⟩) hS (fun H locs hP hS => ?_)
  refine lv_if_eq (tgt := 18) hx hb dX11_price_4 (by decide) (fun hc => ?_) (fun hc => ?_)
  · replace hf := hs_t hf hc
    refine lv_bipush (v := -3) hx hb dX11_price_18 (by decide) ?_
    exact hs_iret hx hb hr hlocks rfl hK hP hS hf dX11_price_20
  · replace hf := hs_f hf hc
    refine lv_iload_n hx hb dX11_price_7 rfl (lv_at hl 2 rfl) ?_
    refine lv_if_lt (tgt := 18) hx hb dX11_price_8 (by decide) (fun hc => ?_) (fun hc => ?_)
    · replace hf := hs_t hf hc
      refine lv_bipush (v := -3) hx hb dX11_price_18 (by decide) ?_
      exact hs_iret hx hb hr hlocks rfl hK hP hS hf dX11_price_20
    · replace hf := hs_f hf hc
      refine lv_iload_n hx hb dX11_price_11 rfl (lv_at hl 2 rfl) ?_
      refine lv_sipush (v := 1000) hx hb dX11_price_12 (by decide) ?_
      refine lv_icmp_le (tgt := 21) hx hb dX11_price_15 (by decide) (fun hc => ?_) (fun hc => ?_)
      · replace hf := hs_t hf hc
        refine lv_aload_n hx hb dX11_price_21 rfl (lv_at hl 0 rfl) ?_
        obtain ⟨h4, hf⟩ := hs_ck hf
        obtain ⟨h5, hf⟩ := hs_ck hf
        refine hs_getr (C := RX11) (T := TX11) (N := 8) hx hb hts (fun w h => List.mem_cons_of_mem _ (inlX11 w h)) hown hK.1 hP h4 (by decide) rfl 4 (by decide) (hts _ (List.mem_cons_of_mem _ wq23)) (fun _ h => h) rfl h5 dX11_price_22 ?_
        refine lv_iload_n hx hb dX11_price_25 rfl (lv_at hl 1 rfl) ?_
        obtain ⟨h6, hf⟩ := hs_ck hf
        obtain ⟨r8, g7, h9, hf⟩ := hs_bd_some hf
        refine hs_calli (va_runV (As := [.int v1]) (rest := []) ⟨hx, hb, hml, hown, hts⟩ (ctX8_of l B D E ((hs_R g1 v0 4) - 1) v1 g1 _ h9) (cwV 1 hts (hs_gV (fun _ h => List.mem_cons_of_mem _ h) wq471 wq472 wq473 wq22 wq474) rfl rfl rfl (by decide +kernel) ⟨Nat.le_of_ble_eq_true rfl, Nat.le_of_ble_eq_true rfl⟩) (hs_preV (r := (RX8, TX8, 1)) hP hK h6 (by decide) rfl) rfl rfl hl.1 rfl (lv_room (Nat.le_of_ble_eq_true rfl)) dX11_price_26 ⟨(Nat.le_of_ble_eq_true rfl), (Nat.le_of_ble_eq_true rfl)⟩) hS (fun H locs hP hS => ?_)
        refine lv_istore_n (lv' := [(3, .int r8), (0, .ref (B + v0)), (1, .int v1), (2, .int v2)]) hx hb dX11_price_29 rfl hl (by decide) rfl (fun ls hl => ?_)
        refine lv_aload_n hx hb dX11_price_30 rfl (lv_at hl 1 rfl) ?_
        obtain ⟨h10, hf⟩ := hs_ck hf
        obtain ⟨h11, hf⟩ := hs_ck hf
        refine hs_getr (C := RX11) (T := TX11) (N := 8) hx hb hts (fun w h => List.mem_cons_of_mem _ (inlX11 w h)) hown hK.1 hP h10 (by decide) rfl 4 (by decide) (hts _ (List.mem_cons_of_mem _ wq23)) (fun _ h => h) rfl h11 dX11_price_31 ?_
        refine lv_iload_n hx hb dX11_price_34 rfl (lv_at hl 2 rfl) ?_
        refine lv_iload_n hx hb dX11_price_35 rfl (lv_at hl 3 rfl) ?_
        obtain ⟨h12, hf⟩ := hs_ck hf
        obtain ⟨g13, h15, hf⟩ := hs_bv_some hf
        refine hs_callv (va_runV (As := [.int v1, .int v2]) (rest := []) ⟨hx, hb, hml, hown, hts⟩ (ctX8_become l B D E ((hs_R g7 v0 4) - 1) v1 v2 g7 _ h15) (cwV 2 hts (hs_gV (fun _ h => List.mem_cons_of_mem _ h) wq476 wq477 wq478 wq22 wq479) rfl rfl rfl (by decide +kernel) ⟨Nat.le_of_ble_eq_true rfl, Nat.le_of_ble_eq_true rfl⟩) (hs_preV (r := (RX8, TX8, 1)) hP hK h12 (by decide) rfl) rfl rfl hl.1 rfl (lv_room (Nat.le_of_ble_eq_true rfl)) dX11_price_36 ⟨(Nat.le_of_ble_eq_true rfl), (Nat.le_of_ble_eq_true rfl)⟩) hS (fun H locs hP hS => ?_)
        refine lv_iload_n hx hb dX11_price_39 rfl (lv_at hl 0 rfl) ?_
        exact hs_iret hx hb hr hlocks rfl hK hP hS hf dX11_price_40
      · replace hf := hs_f hf hc
        refine lv_bipush (v := -3) hx hb dX11_price_18 (by decide) ?_
        exact hs_iret hx hb hr hlocks rfl hK hP hS hf dX11_price_20

theorem dX7_sumFrom_0 : decode cX7_sumFrom 0 = .ok (.iconst 0, 1) := by decide +kernel
theorem dX7_sumFrom_1 : decode cX7_sumFrom 1 = .ok (.istore_n 3, 1) := by decide +kernel
theorem dX7_sumFrom_2 : decode cX7_sumFrom 2 = .ok (.iload_n 1, 1) := by decide +kernel
theorem dX7_sumFrom_3 : decode cX7_sumFrom 3 = .ok (.istore 4, 2) := by decide +kernel
theorem dX7_sumFrom_5 : decode cX7_sumFrom 5 = .ok (.iload 4, 2) := by decide +kernel
theorem dX7_sumFrom_7 : decode cX7_sumFrom 7 = .ok (.aload_n 0, 1) := by decide +kernel
theorem dX7_sumFrom_8 : decode cX7_sumFrom 8 = .ok (.getfield 22, 3) := by decide +kernel
theorem dX7_sumFrom_11 : decode cX7_sumFrom 11 = .ok (.if_icmp .ge 49, 3) := by decide +kernel
theorem dX7_sumFrom_14 : decode cX7_sumFrom 14 = .ok (.iload 4, 2) := by decide +kernel
theorem dX7_sumFrom_16 : decode cX7_sumFrom 16 = .ok (.iload_n 1, 1) := by decide +kernel
theorem dX7_sumFrom_17 : decode cX7_sumFrom 17 = .ok (.if_icmp .le 15, 3) := by decide +kernel
theorem dX7_sumFrom_20 : decode cX7_sumFrom 20 = .ok (.aload_n 0, 1) := by decide +kernel
theorem dX7_sumFrom_21 : decode cX7_sumFrom 21 = .ok (.iload 4, 2) := by decide +kernel
theorem dX7_sumFrom_23 : decode cX7_sumFrom 23 = .ok (.invokevirtual 78, 3) := by decide +kernel
theorem dX7_sumFrom_26 : decode cX7_sumFrom 26 = .ok (.ifCond .eq 6, 3) := by decide +kernel
theorem dX7_sumFrom_29 : decode cX7_sumFrom 29 = .ok (.goto 31, 3) := by decide +kernel
theorem dX7_sumFrom_32 : decode cX7_sumFrom 32 = .ok (.aload_n 0, 1) := by decide +kernel
theorem dX7_sumFrom_33 : decode cX7_sumFrom 33 = .ok (.iload 4, 2) := by decide +kernel
theorem dX7_sumFrom_35 : decode cX7_sumFrom 35 = .ok (.invokevirtual 57, 3) := by decide +kernel
theorem dX7_sumFrom_38 : decode cX7_sumFrom 38 = .ok (.ifCond .eq 16, 3) := by decide +kernel
theorem dX7_sumFrom_41 : decode cX7_sumFrom 41 = .ok (.iload_n 3, 1) := by decide +kernel
theorem dX7_sumFrom_42 : decode cX7_sumFrom 42 = .ok (.aload_n 2, 1) := by decide +kernel
theorem dX7_sumFrom_43 : decode cX7_sumFrom 43 = .ok (.aload_n 0, 1) := by decide +kernel
theorem dX7_sumFrom_44 : decode cX7_sumFrom 44 = .ok (.iload 4, 2) := by decide +kernel
theorem dX7_sumFrom_46 : decode cX7_sumFrom 46 = .ok (.invokevirtual 50, 3) := by decide +kernel
theorem dX7_sumFrom_49 : decode cX7_sumFrom 49 = .ok (.invokevirtual 81, 3) := by decide +kernel
theorem dX7_sumFrom_52 : decode cX7_sumFrom 52 = .ok (.iadd, 1) := by decide +kernel
theorem dX7_sumFrom_53 : decode cX7_sumFrom 53 = .ok (.istore_n 3, 1) := by decide +kernel
theorem dX7_sumFrom_54 : decode cX7_sumFrom 54 = .ok (.iinc 4 1, 3) := by decide +kernel
theorem dX7_sumFrom_57 : decode cX7_sumFrom 57 = .ok (.goto (-52), 3) := by decide +kernel
theorem dX7_sumFrom_60 : decode cX7_sumFrom 60 = .ok (.iload_n 3, 1) := by decide +kernel
theorem dX7_sumFrom_61 : decode cX7_sumFrom 61 = .ok (.ireturn, 1) := by decide +kernel
abbrev wcX7_sumFrom : List Cond := .code yX7_sumFrom cX7_sumFrom 5 (some .int) :: wsL_law
def jX7_sumFrom_54 (rec : Int32 → Int32 → hs_S → Option (Nat × Int32 × hs_S)) (v0 : Nat) (v1 : Int32) (v2 : Nat) (v3 : Int32) (v4 : Int32) (g : hs_S) : Option (Nat × Int32 × hs_S) :=
  rec v3 (v4 + (1 : Int32)) g
def jX7_sumFrom_32 (rec : Int32 → Int32 → hs_S → Option (Nat × Int32 × hs_S)) (v0 : Nat) (v1 : Int32) (v2 : Nat) (v3 : Int32) (v4 : Int32) (g : hs_S) : Option (Nat × Int32 × hs_S) :=
  if hs_kd g v0 = 6 then
  hs_bd (fX7_begins v0 v4 g) fun r4 g3 =>
  if r4 = 0 then (
    jX7_sumFrom_54 rec v0 v1 v2 v3 v4 g3
  ) else (
    if hs_kd g3 v0 = 6 then
    hs_bd (fX7_valueAt v0 v4 g3) fun r8 g7 =>
    if hs_kd g7 v2 = 7 then
    hs_bd (fX8_of v2 r8 g7) fun r12 g11 =>
    jX7_sumFrom_54 rec v0 v1 v2 (v3 + r12) v4 g11
    else none else none
  )
  else none
def lX7_sumFrom_5 : Nat → Nat → Int32 → Nat → Int32 → Int32 → hs_S → Option (Nat × Int32 × hs_S)
  | 0, _, _, _, _, _, _ => none
  | n + 1, v0, v1, v2, v3, v4, g =>
    if hs_kd g v0 = 6 then
    if (hs_I g v0 3) ≤ v4 then (
      some (0, v3, g)
    ) else (
      if v4 ≤ v1 then (
        jX7_sumFrom_32 (fun y0 y1 g => lX7_sumFrom_5 n v0 v1 v2 y0 y1 g) v0 v1 v2 v3 v4 g
      ) else (
        hs_bd (fX7_beginsBlock v0 v4 g) fun r15 g14 =>
        if r15 = 0 then (
          jX7_sumFrom_32 (fun y0 y1 g => lX7_sumFrom_5 n v0 v1 v2 y0 y1 g) v0 v1 v2 v3 v4 g14
        ) else (
          some (1, v3, g14)
        )
      )
    )
    else none
theorem lX7_sumFrom_5_s (n : Nat) (v0 : Nat) (v1 : Int32) (v2 : Nat) (v3 : Int32) (v4 : Int32) (g : hs_S) : lX7_sumFrom_5 (n + 1) v0 v1 v2 v3 v4 g =
    if hs_kd g v0 = 6 then
    if (hs_I g v0 3) ≤ v4 then (
      some (0, v3, g)
    ) else (
      if v4 ≤ v1 then (
        jX7_sumFrom_32 (fun y0 y1 g => lX7_sumFrom_5 n v0 v1 v2 y0 y1 g) v0 v1 v2 v3 v4 g
      ) else (
        hs_bd (fX7_beginsBlock v0 v4 g) fun r15 g14 =>
        if r15 = 0 then (
          jX7_sumFrom_32 (fun y0 y1 g => lX7_sumFrom_5 n v0 v1 v2 y0 y1 g) v0 v1 v2 v3 v4 g14
        ) else (
          some (1, v3, g14)
        )
      )
    )
    else none := rfl
def fX7_sumFrom (v0 : Nat) (v1 : Int32) (v2 : Nat) (g : hs_S) : Option (Int32 × hs_S) :=
  hs_b3 (lX7_sumFrom_5 hs_N v0 v1 v2 (0 : Int32) v1 g) fun k18 x17 g19 =>
  if k18 = 0 then (
    some (x17, g19)
  ) else (
    some (x17, g19)
  )
abbrev rmX7_sumFrom : Room := { frames := 2, cells := 0, slots := 0, locals := 42 }
set_option maxHeartbeats 4000000 in
set_option maxRecDepth 100000 in
theorem wX7_sumFrom_j54 {p : Program} {l : Launch} {e : Env} {s : State} {m : MethodId} {args : Array Value} {below : List Frame} {meth : Method} {c : Code} {B : Nat} {D : va_G} {E : Nat → ClassId} (hX : hs_cx cX7_sumFrom (some .int) 5 RX7 wcX7_sumFrom p s m args meth c D E) {Q : State → Prop} {o : Nat × Int32 × hs_S} {rec : Int32 → Int32 → hs_S → Option (Nat × Int32 × hs_S)} {v0 : Nat} {v1 : Int32} {v2 : Nat} {v3 : Int32} {v4 : Int32}  (hrec : ∀ (y0 : Int32) (y1 : Int32) (g : hs_S) (H : Heap) (locs : List Loc) (ls : Array Slot), rec y0 y1 g = some o → hs_P B D E g H → hs_Sx B s.heap H locs → lv_has ls 5 [(0, .ref (B + v0)), (1, .int v1), (2, .ref (B + v2)), (3, .int y0), (4, .int y1)] → W p l e rmX7_sumFrom s m args below meth c H locs 0 0 Q (F0 m 5 ls [])) (hex0 : o.1 = 0 → ∀ (H : Heap) (locs : List Loc) (ls : Array Slot), hs_P B D E (o.2.2) H → hs_Sx B s.heap H locs → lv_has ls 5 [(3, .int (o.2.1))] → W p l e rmX7_sumFrom s m args below meth c H locs 0 0 Q (F0 m 60 ls [])) (hex1 : o.1 = 1 → ∀ (H : Heap) (locs : List Loc) (ls : Array Slot), hs_P B D E (o.2.2) H → hs_Sx B s.heap H locs → lv_has ls 5 [(3, .int (o.2.1))] → W p l e rmX7_sumFrom s m args below meth c H locs 0 0 Q (F0 m 29 ls [])) {g : hs_S} {H : Heap} {locs : List Loc} {ls : Array Slot} (hf : jX7_sumFrom_54 rec v0 v1 v2 v3 v4 g = some o) (hP : hs_P B D E g H) (hS : hs_Sx B s.heap H locs) (hl : lv_has ls 5 [(0, .ref (B + v0)), (1, .int v1), (2, .ref (B + v2)), (3, .int v3), (4, .int v4)]) : W p l e rmX7_sumFrom s m args below meth c H locs 0 0 Q (F0 m 54 ls []) := by
  obtain ⟨hx, hb, hr, hml, hown, hts, hlocks, hK⟩ := id hX
  unfold jX7_sumFrom_54 at hf
  refine lv_iinc (v := (v4 + (1 : Int32))) (lv' := [(4, .int (v4 + (1 : Int32))), (0, .ref (B + v0)), (1, .int v1), (2, .ref (B + v2)), (3, .int v3)]) hx hb dX7_sumFrom_54 hl (k := 4) rfl (by rfl) (by decide) rfl (fun ls hl => ?_)
  refine lv_goto (tgt := 5) hx hb dX7_sumFrom_57 (by decide) ?_
  exact hrec _ _ _ _ _ _ hf hP hS (lv_sub hl [1, 2, 3, 4, 0] rfl)

set_option maxHeartbeats 4000000 in
set_option maxRecDepth 100000 in
theorem wX7_sumFrom_j32 {p : Program} {l : Launch} {e : Env} {s : State} {m : MethodId} {args : Array Value} {below : List Frame} {meth : Method} {c : Code} {B : Nat} {D : va_G} {E : Nat → ClassId} (hX : hs_cx cX7_sumFrom (some .int) 5 RX7 wcX7_sumFrom p s m args meth c D E) {Q : State → Prop} {o : Nat × Int32 × hs_S} {rec : Int32 → Int32 → hs_S → Option (Nat × Int32 × hs_S)} {v0 : Nat} {v1 : Int32} {v2 : Nat} {v3 : Int32} {v4 : Int32}  (hrec : ∀ (y0 : Int32) (y1 : Int32) (g : hs_S) (H : Heap) (locs : List Loc) (ls : Array Slot), rec y0 y1 g = some o → hs_P B D E g H → hs_Sx B s.heap H locs → lv_has ls 5 [(0, .ref (B + v0)), (1, .int v1), (2, .ref (B + v2)), (3, .int y0), (4, .int y1)] → W p l e rmX7_sumFrom s m args below meth c H locs 0 0 Q (F0 m 5 ls [])) (hex0 : o.1 = 0 → ∀ (H : Heap) (locs : List Loc) (ls : Array Slot), hs_P B D E (o.2.2) H → hs_Sx B s.heap H locs → lv_has ls 5 [(3, .int (o.2.1))] → W p l e rmX7_sumFrom s m args below meth c H locs 0 0 Q (F0 m 60 ls [])) (hex1 : o.1 = 1 → ∀ (H : Heap) (locs : List Loc) (ls : Array Slot), hs_P B D E (o.2.2) H → hs_Sx B s.heap H locs → lv_has ls 5 [(3, .int (o.2.1))] → W p l e rmX7_sumFrom s m args below meth c H locs 0 0 Q (F0 m 29 ls [])) {g : hs_S} {H : Heap} {locs : List Loc} {ls : Array Slot} (hf : jX7_sumFrom_32 rec v0 v1 v2 v3 v4 g = some o) (hP : hs_P B D E g H) (hS : hs_Sx B s.heap H locs) (hl : lv_has ls 5 [(0, .ref (B + v0)), (1, .int v1), (2, .ref (B + v2)), (3, .int v3), (4, .int v4)]) : W p l e rmX7_sumFrom s m args below meth c H locs 0 0 Q (F0 m 32 ls []) := by
  obtain ⟨hx, hb, hr, hml, hown, hts, hlocks, hK⟩ := id hX
  unfold jX7_sumFrom_32 at hf
  refine lv_aload_n hx hb dX7_sumFrom_32 rfl (lv_at hl 0 rfl) ?_
  refine lv_iload hx hb dX7_sumFrom_33 (lv_at hl 4 rfl) ?_
  obtain ⟨h2, hf⟩ := hs_ck hf
  obtain ⟨r4, g3, h5, hf⟩ := hs_bd_some hf
  refine hs_calli (va_runV (As := [.int v4]) (rest := []) ⟨hx, hb, hml, hown, hts⟩ (ctX7_begins l B D E v0 v4 g _ h5) (cwV 1 hts (hs_gV (fun _ h => List.mem_cons_of_mem _ h) wq305 wq289 wq290 wq43 wq291) rfl rfl rfl (by decide +kernel) ⟨Nat.le_of_ble_eq_true rfl, Nat.le_of_ble_eq_true rfl⟩) (hs_preV (r := (RX7, TX7, 11)) hP hK h2 (by decide) rfl) rfl rfl hl.1 rfl (lv_room (Nat.le_of_ble_eq_true rfl)) dX7_sumFrom_35 ⟨(Nat.le_of_ble_eq_true rfl), (Nat.le_of_ble_eq_true rfl)⟩) hS (fun H locs hP hS => ?_)
  refine lv_if_eq (tgt := 54) hx hb dX7_sumFrom_38 (by decide) (fun hc => ?_) (fun hc => ?_)
  · replace hf := hs_t hf hc
    exact wX7_sumFrom_j54 hX hrec hex0 hex1 hf hP hS (lv_sub hl [0, 1, 2, 3, 4] rfl)
  · replace hf := hs_f hf hc
    refine lv_iload_n hx hb dX7_sumFrom_41 rfl (lv_at hl 3 rfl) ?_
    refine lv_aload_n hx hb dX7_sumFrom_42 rfl (lv_at hl 2 rfl) ?_
    refine lv_aload_n hx hb dX7_sumFrom_43 rfl (lv_at hl 0 rfl) ?_
    refine lv_iload hx hb dX7_sumFrom_44 (lv_at hl 4 rfl) ?_
    obtain ⟨h6, hf⟩ := hs_ck hf
    obtain ⟨r8, g7, h9, hf⟩ := hs_bd_some hf
    refine hs_calli (va_runV (As := [.int v4]) (rest := [.ref (B + v2), .int v3]) ⟨hx, hb, hml, hown, hts⟩ (ctX7_valueAt l B D E v0 v4 g3 _ h9) (cwV 1 hts (hs_gV (fun _ h => List.mem_cons_of_mem _ h) wq248 wq249 wq250 wq43 wq251) rfl rfl rfl (by decide +kernel) ⟨Nat.le_of_ble_eq_true rfl, Nat.le_of_ble_eq_true rfl⟩) (hs_preV (r := (RX7, TX7, 11)) hP hK h6 (by decide) rfl) rfl rfl hl.1 rfl (lv_room (Nat.le_of_ble_eq_true rfl)) dX7_sumFrom_46 ⟨(Nat.le_of_ble_eq_true rfl), (Nat.le_of_ble_eq_true rfl)⟩) hS (fun H locs hP hS => ?_)
    obtain ⟨h10, hf⟩ := hs_ck hf
    obtain ⟨r12, g11, h13, hf⟩ := hs_bd_some hf
    refine hs_calli (va_runV (As := [.int r8]) (rest := [.int v3]) ⟨hx, hb, hml, hown, hts⟩ (ctX8_of l B D E v2 r8 g7 _ h13) (cwV 1 hts (hs_gV (fun _ h => List.mem_cons_of_mem _ h) wq506 wq472 wq473 wq22 wq474) rfl rfl rfl (by decide +kernel) ⟨Nat.le_of_ble_eq_true rfl, Nat.le_of_ble_eq_true rfl⟩) (hs_preV (r := (RX8, TX8, 1)) hP hK h10 (by decide) rfl) rfl rfl hl.1 rfl (lv_room (Nat.le_of_ble_eq_true rfl)) dX7_sumFrom_49 ⟨(Nat.le_of_ble_eq_true rfl), (Nat.le_of_ble_eq_true rfl)⟩) hS (fun H locs hP hS => ?_)
    refine lv_iadd hx hb dX7_sumFrom_52 ?_
    refine lv_istore_n (lv' := [(3, .int (v3 + r12)), (0, .ref (B + v0)), (1, .int v1), (2, .ref (B + v2)), (4, .int v4)]) hx hb dX7_sumFrom_53 rfl hl (by decide) rfl (fun ls hl => ?_)
    exact wX7_sumFrom_j54 hX hrec hex0 hex1 hf hP hS (lv_sub hl [1, 2, 3, 0, 4] rfl)

set_option maxHeartbeats 4000000 in
set_option maxRecDepth 100000 in
theorem wX7_sumFrom_5 {p : Program} {l : Launch} {e : Env} {s : State} {m : MethodId} {args : Array Value} {below : List Frame} {meth : Method} {c : Code} {B : Nat} {D : va_G} {E : Nat → ClassId} (hX : hs_cx cX7_sumFrom (some .int) 5 RX7 wcX7_sumFrom p s m args meth c D E) {Q : State → Prop} {o : Nat × Int32 × hs_S} {v0 : Nat} {v1 : Int32} {v2 : Nat} (hex0 : o.1 = 0 → ∀ (H : Heap) (locs : List Loc) (ls : Array Slot), hs_P B D E (o.2.2) H → hs_Sx B s.heap H locs → lv_has ls 5 [(3, .int (o.2.1))] → W p l e rmX7_sumFrom s m args below meth c H locs 0 0 Q (F0 m 60 ls [])) (hex1 : o.1 = 1 → ∀ (H : Heap) (locs : List Loc) (ls : Array Slot), hs_P B D E (o.2.2) H → hs_Sx B s.heap H locs → lv_has ls 5 [(3, .int (o.2.1))] → W p l e rmX7_sumFrom s m args below meth c H locs 0 0 Q (F0 m 29 ls [])) : ∀ (n : Nat) (v3 : Int32) (v4 : Int32) (g : hs_S), lX7_sumFrom_5 n v0 v1 v2 v3 v4 g = some o → ∀ (H : Heap) (locs : List Loc) (ls : Array Slot), hs_P B D E g H → hs_Sx B s.heap H locs → lv_has ls 5 [(0, .ref (B + v0)), (1, .int v1), (2, .ref (B + v2)), (3, .int v3), (4, .int v4)] → W p l e rmX7_sumFrom s m args below meth c H locs 0 0 Q (F0 m 5 ls []) := by
  obtain ⟨hx, hb, hr, hml, hown, hts, hlocks, hK⟩ := id hX
  intro n
  induction n with
  | zero =>
    intro v3 v4 g hf
    cases hf
  | succ n ih =>
    intro v3 v4 g hf H locs ls hP hS hl
    replace hf := (lX7_sumFrom_5_s n v0 v1 v2 v3 v4 g).symm.trans hf
    refine lv_iload hx hb dX7_sumFrom_5 (lv_at hl 4 rfl) ?_
    refine lv_aload_n hx hb dX7_sumFrom_7 rfl (lv_at hl 0 rfl) ?_
    obtain ⟨h1, hf⟩ := hs_ck hf
    refine hs_geti (C := RX7) (T := TX7) (N := 11) hx hb hts (fun w h => List.mem_cons_of_mem _ (inlX7 w h)) hown hK.1 hP h1 (by decide) rfl 3 (by decide) (hts _ (List.mem_cons_of_mem _ wq205)) (fun _ h => h) rfl dX7_sumFrom_8 ?_
    refine lv_icmp_ge (tgt := 60) hx hb dX7_sumFrom_11 (by decide) (fun hc => ?_) (fun hc => ?_)
    · replace hf := hs_t hf hc
      obtain rfl := Option.some.inj hf
      exact hex0 rfl _ _ _ hP hS (lv_sub hl [3] rfl)
    · replace hf := hs_f hf hc
      refine lv_iload hx hb dX7_sumFrom_14 (lv_at hl 4 rfl) ?_
      refine lv_iload_n hx hb dX7_sumFrom_16 rfl (lv_at hl 1 rfl) ?_
      refine lv_icmp_le (tgt := 32) hx hb dX7_sumFrom_17 (by decide) (fun hc => ?_) (fun hc => ?_)
      · replace hf := hs_t hf hc
        exact wX7_sumFrom_j32 hX (fun z0 z1 g H locs ls hf hP hS hl => ih z0 z1 g hf H locs ls hP hS hl) hex0 hex1 hf hP hS (lv_sub hl [0, 1, 2, 3, 4] rfl)
      · replace hf := hs_f hf hc
        refine lv_aload_n hx hb dX7_sumFrom_20 rfl (lv_at hl 0 rfl) ?_
        refine lv_iload hx hb dX7_sumFrom_21 (lv_at hl 4 rfl) ?_
        obtain ⟨r15, g14, h16, hf⟩ := hs_bd_some hf
        refine hs_calli (va_runV (As := [.int v4]) (rest := []) ⟨hx, hb, hml, hown, hts⟩ (ctX7_beginsBlock l B D E v0 v4 g _ h16) (cwV 1 hts (hs_gV (fun _ h => List.mem_cons_of_mem _ h) wq505 wq327 wq328 wq43 wq329) rfl rfl rfl (by decide +kernel) ⟨Nat.le_of_ble_eq_true rfl, Nat.le_of_ble_eq_true rfl⟩) (hs_preV (r := (RX7, TX7, 11)) hP hK h1 (by decide) rfl) rfl rfl hl.1 rfl (lv_room (Nat.le_of_ble_eq_true rfl)) dX7_sumFrom_23 ⟨(Nat.le_of_ble_eq_true rfl), (Nat.le_of_ble_eq_true rfl)⟩) hS (fun H locs hP hS => ?_)
        refine lv_if_eq (tgt := 32) hx hb dX7_sumFrom_26 (by decide) (fun hc => ?_) (fun hc => ?_)
        · replace hf := hs_t hf hc
          exact wX7_sumFrom_j32 hX (fun z0 z1 g H locs ls hf hP hS hl => ih z0 z1 g hf H locs ls hP hS hl) hex0 hex1 hf hP hS (lv_sub hl [0, 1, 2, 3, 4] rfl)
        · replace hf := hs_f hf hc
          obtain rfl := Option.some.inj hf
          exact hex1 rfl _ _ _ hP hS (lv_sub hl [3] rfl)

set_option maxHeartbeats 4000000 in
set_option maxRecDepth 100000 in
theorem ctX7_sumFrom (l : Launch) (B : Nat) (D : va_G) (E : Nat → ClassId) (v0 : Nat) (v1 : Int32) (v2 : Nat) (g : hs_S) (o : Int32 × hs_S) (hf : fX7_sumFrom v0 v1 v2 g = some o) : Met l yX7_sumFrom wcX7_sumFrom rmX7_sumFrom (hs_Pc B D E g [.ref (B + v0), .int v1, .ref (B + v2)]) (hs_Qi B D E o) (0) (0) (hs_F B) := by
  refine Met.ofW (cc := cX7_sumFrom) (maxL := 5) (ret := (some .int)) (by decide) rfl ?_
  intro p e s m args below meth c s₁ Bd hml hv
  obtain ⟨rfl, hP, hK⟩ := hv
  have hx := Bd.exec
  have hb := Bd.bytes
  have hr := Bd.returns
  have hts := atoms_spec (ws := wcX7_sumFrom) Bd.pre
  have hown : s.vm.findClass RX7 = some m.cls := findClass_of_methodNamed Bd.named
  have hlocks := Bd.notSynchronized
  have hS : hs_Sx B s.heap s.heap [] := va_S.rf
  have hX : hs_cx cX7_sumFrom (some .int) 5 RX7 wcX7_sumFrom p s m (List.toArray [.ref (B + v0), .int v1, .ref (B + v2)]) meth c D E := ⟨hx, hb, hr, hml, hown, hts, hlocks, hK⟩
  have hl := lv_entry ([.ref (B + v0), .int v1, .ref (B + v2)]) (n := 5) (Nat.le_of_ble_eq_true rfl)
  rw [lg_entry_eq]
  generalize (lg_sl ([.ref (B + v0), .int v1, .ref (B + v2)]) ++ List.replicate (5 - (lg_sl ([.ref (B + v0), .int v1, .ref (B + v2)])).length) Slot.unset).toArray = ls at hl ⊢
  have hl : lv_has ls 5 [(0, .ref (B + v0)), (1, .int v1), (2, .ref (B + v2))] := hl
  have hP : hs_P B D E g s.heap := hP
  unfold fX7_sumFrom at hf
  refine lv_iconst (v := 0) hx hb dX7_sumFrom_0 (by decide) ?_
  refine lv_istore_n (lv' := [(3, .int (0 : Int32)), (0, .ref (B + v0)), (1, .int v1), (2, .ref (B + v2))]) hx hb dX7_sumFrom_1 rfl hl (by decide) rfl (fun ls hl => ?_)
  refine lv_iload_n hx hb dX7_sumFrom_2 rfl (lv_at hl 2 rfl) ?_
  refine lv_istore (lv' := [(4, .int v1), (3, .int (0 : Int32)), (0, .ref (B + v0)), (1, .int v1), (2, .ref (B + v2))]) hx hb dX7_sumFrom_3 hl (by decide) rfl (fun ls hl => ?_)
  obtain ⟨k18, x17, g19, h20, hf⟩ := hs_b3_some hf
  refine wX7_sumFrom_5 hX (fun hlab H locs ls hP hS hl => ?_) (fun hlab H locs ls hP hS hl => ?_) hs_N _ _ _ h20 _ _ _ hP hS (lv_sub hl [2, 3, 4, 1, 0] rfl)
  · replace hlab : k18 = 0 := hlab
    replace hf := hs_t hf hlab
    refine lv_iload_n hx hb dX7_sumFrom_60 rfl (lv_at hl 0 rfl) ?_
    exact hs_iret hx hb hr hlocks rfl hK hP hS hf dX7_sumFrom_61
  · replace hlab : k18 = 1 := hlab
    replace hf := hs_f hf (by rw [hlab]; decide)
    refine lv_goto (tgt := 60) hx hb dX7_sumFrom_29 (by decide) ?_
    refine lv_iload_n hx hb dX7_sumFrom_60 rfl (lv_at hl 0 rfl) ?_
    exact hs_iret hx hb hr hlocks rfl hK hP hS hf dX7_sumFrom_61

