theorem dX2_wrongHandlerCount_0 : decode cX2_wrongHandlerCount 0 = .ok (.aload_n 2, 1) := by decide +kernel
theorem dX2_wrongHandlerCount_1 : decode cX2_wrongHandlerCount 1 = .ok (.getfield 56, 3) := by decide +kernel
theorem dX2_wrongHandlerCount_4 : decode cX2_wrongHandlerCount 4 = .ok (.aload_n 2, 1) := by decide +kernel
theorem dX2_wrongHandlerCount_5 : decode cX2_wrongHandlerCount 5 = .ok (.getfield 59, 3) := by decide +kernel
theorem dX2_wrongHandlerCount_8 : decode cX2_wrongHandlerCount 8 = .ok (.iadd, 1) := by decide +kernel
theorem dX2_wrongHandlerCount_9 : decode cX2_wrongHandlerCount 9 = .ok (.istore_n 3, 1) := by decide +kernel
theorem dX2_wrongHandlerCount_10 : decode cX2_wrongHandlerCount 10 = .ok (.iload_n 3, 1) := by decide +kernel
theorem dX2_wrongHandlerCount_11 : decode cX2_wrongHandlerCount 11 = .ok (.aload_n 1, 1) := by decide +kernel
theorem dX2_wrongHandlerCount_12 : decode cX2_wrongHandlerCount 12 = .ok (.getfield 28, 3) := by decide +kernel
theorem dX2_wrongHandlerCount_15 : decode cX2_wrongHandlerCount 15 = .ok (.if_icmp .lt 8, 3) := by decide +kernel
theorem dX2_wrongHandlerCount_18 : decode cX2_wrongHandlerCount 18 = .ok (.aload_n 1, 1) := by decide +kernel
theorem dX2_wrongHandlerCount_19 : decode cX2_wrongHandlerCount 19 = .ok (.getfield 28, 3) := by decide +kernel
theorem dX2_wrongHandlerCount_22 : decode cX2_wrongHandlerCount 22 = .ok (.ireturn, 1) := by decide +kernel
theorem dX2_wrongHandlerCount_23 : decode cX2_wrongHandlerCount 23 = .ok (.aload_n 2, 1) := by decide +kernel
theorem dX2_wrongHandlerCount_24 : decode cX2_wrongHandlerCount 24 = .ok (.aload_n 1, 1) := by decide +kernel
theorem dX2_wrongHandlerCount_25 : decode cX2_wrongHandlerCount 25 = .ok (.iload_n 3, 1) := by decide +kernel
theorem dX2_wrongHandlerCount_26 : decode cX2_wrongHandlerCount 26 = .ok (.invokevirtual 18, 3) := by decide +kernel
theorem dX2_wrongHandlerCount_29 : decode cX2_wrongHandlerCount 29 = .ok (.putfield 47, 3) := by decide +kernel
theorem dX2_wrongHandlerCount_32 : decode cX2_wrongHandlerCount 32 = .ok (.aload_n 2, 1) := by decide +kernel
theorem dX2_wrongHandlerCount_33 : decode cX2_wrongHandlerCount 33 = .ok (.getfield 47, 3) := by decide +kernel
theorem dX2_wrongHandlerCount_36 : decode cX2_wrongHandlerCount 36 = .ok (.bipush 8, 2) := by decide +kernel
theorem dX2_wrongHandlerCount_38 : decode cX2_wrongHandlerCount 38 = .ok (.if_icmp .le 5, 3) := by decide +kernel
theorem dX2_wrongHandlerCount_41 : decode cX2_wrongHandlerCount 41 = .ok (.iload_n 3, 1) := by decide +kernel
theorem dX2_wrongHandlerCount_42 : decode cX2_wrongHandlerCount 42 = .ok (.ireturn, 1) := by decide +kernel
theorem dX2_wrongHandlerCount_43 : decode cX2_wrongHandlerCount 43 = .ok (.aload_n 0, 1) := by decide +kernel
theorem dX2_wrongHandlerCount_44 : decode cX2_wrongHandlerCount 44 = .ok (.aload_n 2, 1) := by decide +kernel
theorem dX2_wrongHandlerCount_45 : decode cX2_wrongHandlerCount 45 = .ok (.invokevirtual 39, 3) := by decide +kernel
theorem dX2_wrongHandlerCount_48 : decode cX2_wrongHandlerCount 48 = .ok (.aload_n 1, 1) := by decide +kernel
theorem dX2_wrongHandlerCount_49 : decode cX2_wrongHandlerCount 49 = .ok (.getfield 28, 3) := by decide +kernel
theorem dX2_wrongHandlerCount_52 : decode cX2_wrongHandlerCount 52 = .ok (.if_icmp .le 10, 3) := by decide +kernel
theorem dX2_wrongHandlerCount_55 : decode cX2_wrongHandlerCount 55 = .ok (.aload_n 1, 1) := by decide +kernel
theorem dX2_wrongHandlerCount_56 : decode cX2_wrongHandlerCount 56 = .ok (.getfield 28, 3) := by decide +kernel
theorem dX2_wrongHandlerCount_59 : decode cX2_wrongHandlerCount 59 = .ok (.goto 4, 3) := by decide +kernel
theorem dX2_wrongHandlerCount_62 : decode cX2_wrongHandlerCount 62 = .ok (.iconst (-1), 1) := by decide +kernel
theorem dX2_wrongHandlerCount_63 : decode cX2_wrongHandlerCount 63 = .ok (.ireturn, 1) := by decide +kernel
abbrev wcX2_wrongHandlerCount : List Cond := .code yX2_wrongHandlerCount cX2_wrongHandlerCount 4 (some .int) :: wsL_law
def fX2_wrongHandlerCount (v0 : Nat) (v1 : Nat) (v2 : Nat) (g : hs_S) : Option (Int32 × hs_S) :=
  if hs_kd g v2 = 6 then
  if hs_kd g v1 = 0 then
  if ((hs_I g v2 2) + (hs_I g v2 3)) < (hs_I g v1 3) then (
    hs_bd (fX0_valueAt v1 ((hs_I g v2 2) + (hs_I g v2 3)) g) fun r4 g3 =>
    if hs_kd g3 v2 = 6 then
    if (hs_I (hs_wI g3 v2 6 r4) v2 6) ≤ (8 : Int32) then (
      if hs_kd (hs_wI g3 v2 6 r4) v0 = 2 then
      hs_bd (fX2_endOf v0 v2 (hs_wI g3 v2 6 r4)) fun r9 g8 =>
      if hs_kd g8 v1 = 0 then
      if r9 ≤ (hs_I g8 v1 3) then (
        some ((-1 : Int32), g8)
      ) else (
        some ((hs_I g8 v1 3), g8)
      )
      else none else none
    ) else (
      some (((hs_I g v2 2) + (hs_I g v2 3)), (hs_wI g3 v2 6 r4))
    )
    else none
  ) else (
    some ((hs_I g v1 3), g)
  )
  else none else none
abbrev rmX2_wrongHandlerCount : Room := { frames := 2, cells := 0, slots := 0, locals := 43 }
set_option maxHeartbeats 4000000 in
set_option maxRecDepth 100000 in
theorem ctX2_wrongHandlerCount (l : Launch) (B : Nat) (D : va_G) (E : Nat → ClassId) (v0 : Nat) (v1 : Nat) (v2 : Nat) (g : hs_S) (o : Int32 × hs_S) (hf : fX2_wrongHandlerCount v0 v1 v2 g = some o) : Met l yX2_wrongHandlerCount wcX2_wrongHandlerCount rmX2_wrongHandlerCount (hs_Pc B D E g [.ref (B + v0), .ref (B + v1), .ref (B + v2)]) (hs_Qi B D E o) (0) (0) (hs_F B) := by
  refine Met.ofW (cc := cX2_wrongHandlerCount) (maxL := 4) (ret := (some .int)) (by decide) rfl ?_
  intro p e s m args below meth c s₁ Bd hml hv
  obtain ⟨rfl, hP, hK⟩ := hv
  have hx := Bd.exec
  have hb := Bd.bytes
  have hr := Bd.returns
  have hts := atoms_spec (ws := wcX2_wrongHandlerCount) Bd.pre
  have hown : s.vm.findClass RX2 = some m.cls := findClass_of_methodNamed Bd.named
  have hlocks := Bd.notSynchronized
  have hS : hs_Sx B s.heap s.heap [] := va_S.rf
  have hX : hs_cx cX2_wrongHandlerCount (some .int) 4 RX2 wcX2_wrongHandlerCount p s m (List.toArray [.ref (B + v0), .ref (B + v1), .ref (B + v2)]) meth c D E := ⟨hx, hb, hr, hml, hown, hts, hlocks, hK⟩
  have hl := lv_entry ([.ref (B + v0), .ref (B + v1), .ref (B + v2)]) (n := 4) (Nat.le_of_ble_eq_true rfl)
  rw [lg_entry_eq]
  generalize (lg_sl ([.ref (B + v0), .ref (B + v1), .ref (B + v2)]) ++ List.replicate (4 - (lg_sl ([.ref (B + v0), .ref (B + v1), .ref (B + v2)])).length) Slot.unset).toArray = ls at hl ⊢
  have hl : lv_has ls 4 [(0, .ref (B + v0)), (1, .ref (B + v1)), (2, .ref (B + v2))] := hl
  have hP : hs_P B D E g s.heap := hP
  unfold fX2_wrongHandlerCount at hf
  refine lv_aload_n hx hb dX2_wrongHandlerCount_0 rfl (lv_at hl 2 rfl) ?_
  obtain ⟨h1, hf⟩ := hs_ck hf
  refine hs_geti (C := RX7) (T := TX7) (N := 11) hx hb hts (fun w h => List.mem_cons_of_mem _ (inlX7 w h)) hown hK.1 hP h1 (by decide) rfl 2 (by decide) (hts _ (List.mem_cons_of_mem _ wq220)) (fun _ h => h) rfl dX2_wrongHandlerCount_1 ?_
  refine lv_aload_n hx hb dX2_wrongHandlerCount_4 rfl (lv_at hl 2 rfl) ?_
  refine hs_geti (C := RX7) (T := TX7) (N := 11) hx hb hts (fun w h => List.mem_cons_of_mem _ (inlX7 w h)) hown hK.1 hP h1 (by decide) rfl 3 (by decide) (hts _ (List.mem_cons_of_mem _ wq219)) (fun _ h => h) rfl dX2_wrongHandlerCount_5 ?_
  refine lv_iadd hx hb dX2_wrongHandlerCount_8 ?_
  refine lv_istore_n (lv' := [(3, .int ((hs_I g v2 2) + (hs_I g v2 3))), (0, .ref (B + v0)), (1, .ref (B + v1)), (2, .ref (B + v2))]) hx hb dX2_wrongHandlerCount_9 rfl hl (by decide) rfl (fun ls hl => ?_)
  refine lv_iload_n hx hb dX2_wrongHandlerCount_10 rfl (lv_at hl 0 rfl) ?_
  refine lv_aload_n hx hb dX2_wrongHandlerCount_11 rfl (lv_at hl 2 rfl) ?_
  obtain ⟨h2, hf⟩ := hs_ck hf
  refine hs_geti (C := RX0) (T := TX0) (N := 5) hx hb hts (fun w h => List.mem_cons_of_mem _ (inlX0 w h)) hown hK.1 hP h2 (by decide) rfl 3 (by decide) (hts _ (List.mem_cons_of_mem _ wq187)) (fun _ h => h) rfl dX2_wrongHandlerCount_12 ?_
  refine lv_icmp_lt (tgt := 23) hx hb dX2_wrongHandlerCount_15 (by decide) (fun hc => ?_) (fun hc => ?_)
  · replace hf := hs_t hf hc
    refine lv_aload_n hx hb dX2_wrongHandlerCount_23 rfl (lv_at hl 3 rfl) ?_
    refine lv_aload_n hx hb dX2_wrongHandlerCount_24 rfl (lv_at hl 2 rfl) ?_
    refine lv_iload_n hx hb dX2_wrongHandlerCount_25 rfl (lv_at hl 0 rfl) ?_
    obtain ⟨r4, g3, h5, hf⟩ := hs_bd_some hf
    refine hs_calli (va_runV (As := [.int ((hs_I g v2 2) + (hs_I g v2 3))]) (rest := [.ref (B + v2)]) ⟨hx, hb, hml, hown, hts⟩ (ctX0_valueAt l B D E v1 ((hs_I g v2 2) + (hs_I g v2 3)) g _ h5) (cwV 1 hts (hs_gV (fun _ h => List.mem_cons_of_mem _ h) wq188 wq189 wq190 wq15 wq191) rfl rfl rfl (by decide +kernel) ⟨Nat.le_of_ble_eq_true rfl, Nat.le_of_ble_eq_true rfl⟩) (hs_preV (r := (RX0, TX0, 5)) hP hK h2 (by decide) rfl) rfl rfl hl.1 rfl (lv_room (Nat.le_of_ble_eq_true rfl)) dX2_wrongHandlerCount_26 ⟨(Nat.le_of_ble_eq_true rfl), (Nat.le_of_ble_eq_true rfl)⟩) hS (fun H locs hP hS => ?_)
    obtain ⟨h6, hf⟩ := hs_ck hf
    refine hs_puti (C := RX7) (T := TX7) (N := 11) hx hb hts (fun w h => List.mem_cons_of_mem _ (inlX7 w h)) tyX7 tyX7_ok nmX7 hown hK.1 hP hS h6 (by decide) rfl 6 (by decide) (hts _ (List.mem_cons_of_mem _ wq230)) (fun _ h => h) (Or.inl rfl) rfl rfl rfl dX2_wrongHandlerCount_29 (fun H locs hP hS => ?_)
    refine lv_aload_n hx hb dX2_wrongHandlerCount_32 rfl (lv_at hl 3 rfl) ?_
    refine hs_geti (C := RX7) (T := TX7) (N := 11) hx hb hts (fun w h => List.mem_cons_of_mem _ (inlX7 w h)) hown hK.1 hP h6 (by decide) rfl 6 (by decide) (hts _ (List.mem_cons_of_mem _ wq230)) (fun _ h => h) rfl dX2_wrongHandlerCount_33 ?_
    refine lv_bipush (v := 8) hx hb dX2_wrongHandlerCount_36 (by decide) ?_
    refine lv_icmp_le (tgt := 43) hx hb dX2_wrongHandlerCount_38 (by decide) (fun hc => ?_) (fun hc => ?_)
    · replace hf := hs_t hf hc
      refine lv_aload_n hx hb dX2_wrongHandlerCount_43 rfl (lv_at hl 1 rfl) ?_
      refine lv_aload_n hx hb dX2_wrongHandlerCount_44 rfl (lv_at hl 3 rfl) ?_
      obtain ⟨h7, hf⟩ := hs_ck hf
      obtain ⟨r9, g8, h10, hf⟩ := hs_bd_some hf
      refine hs_calli (va_runV (As := [.ref (B + v2)]) (rest := []) ⟨hx, hb, hml, hown, hts⟩ (ctX2_endOf l B D E v0 v2 (hs_wI g3 v2 6 r4) _ h10) (cwV 1 hts (hs_gV (fun _ h => List.mem_cons_of_mem _ h) wq231 wq232 wq233 wq26 wq234) rfl rfl rfl (by decide +kernel) ⟨Nat.le_of_ble_eq_true rfl, Nat.le_of_ble_eq_true rfl⟩) (hs_preV (r := (RX2, TX2, 1)) hP hK h7 (by decide) rfl) rfl rfl hl.1 rfl (lv_room (Nat.le_of_ble_eq_true rfl)) dX2_wrongHandlerCount_45 ⟨(Nat.le_of_ble_eq_true rfl), (Nat.le_of_ble_eq_true rfl)⟩) hS (fun H locs hP hS => ?_)
      refine lv_aload_n hx hb dX2_wrongHandlerCount_48 rfl (lv_at hl 2 rfl) ?_
      obtain ⟨h11, hf⟩ := hs_ck hf
      refine hs_geti (C := RX0) (T := TX0) (N := 5) hx hb hts (fun w h => List.mem_cons_of_mem _ (inlX0 w h)) hown hK.1 hP h11 (by decide) rfl 3 (by decide) (hts _ (List.mem_cons_of_mem _ wq187)) (fun _ h => h) rfl dX2_wrongHandlerCount_49 ?_
      refine lv_icmp_le (tgt := 62) hx hb dX2_wrongHandlerCount_52 (by decide) (fun hc => ?_) (fun hc => ?_)
      · replace hf := hs_t hf hc
        refine lv_iconst (v := -1) hx hb dX2_wrongHandlerCount_62 (by decide) ?_
        exact hs_iret hx hb hr hlocks rfl hK hP hS hf dX2_wrongHandlerCount_63
      · replace hf := hs_f hf hc
        refine lv_aload_n hx hb dX2_wrongHandlerCount_55 rfl (lv_at hl 2 rfl) ?_
        refine hs_geti (C := RX0) (T := TX0) (N := 5) hx hb hts (fun w h => List.mem_cons_of_mem _ (inlX0 w h)) hown hK.1 hP h11 (by decide) rfl 3 (by decide) (hts _ (List.mem_cons_of_mem _ wq187)) (fun _ h => h) rfl dX2_wrongHandlerCount_56 ?_
        refine lv_goto (tgt := 63) hx hb dX2_wrongHandlerCount_59 (by decide) ?_
        exact hs_iret hx hb hr hlocks rfl hK hP hS hf dX2_wrongHandlerCount_63
    · replace hf := hs_f hf hc
      refine lv_iload_n hx hb dX2_wrongHandlerCount_41 rfl (lv_at hl 0 rfl) ?_
      exact hs_iret hx hb hr hlocks rfl hK hP hS hf dX2_wrongHandlerCount_42
  · replace hf := hs_f hf hc
    refine lv_aload_n hx hb dX2_wrongHandlerCount_18 rfl (lv_at hl 2 rfl) ?_
    refine hs_geti (C := RX0) (T := TX0) (N := 5) hx hb hts (fun w h => List.mem_cons_of_mem _ (inlX0 w h)) hown hK.1 hP h2 (by decide) rfl 3 (by decide) (hts _ (List.mem_cons_of_mem _ wq187)) (fun _ h => h) rfl dX2_wrongHandlerCount_19 ?_
    exact hs_iret hx hb hr hlocks rfl hK hP hS hf dX2_wrongHandlerCount_22

theorem dX2_wrongNumber_0 : decode cX2_wrongNumber 0 = .ok (.aload_n 1, 1) := by decide +kernel
theorem dX2_wrongNumber_1 : decode cX2_wrongNumber 1 = .ok (.getfield 28, 3) := by decide +kernel
theorem dX2_wrongNumber_4 : decode cX2_wrongNumber 4 = .ok (.istore 4, 2) := by decide +kernel
theorem dX2_wrongNumber_6 : decode cX2_wrongNumber 6 = .ok (.aload_n 2, 1) := by decide +kernel
theorem dX2_wrongNumber_7 : decode cX2_wrongNumber 7 = .ok (.aload_n 1, 1) := by decide +kernel
theorem dX2_wrongNumber_8 : decode cX2_wrongNumber 8 = .ok (.iload_n 3, 1) := by decide +kernel
theorem dX2_wrongNumber_9 : decode cX2_wrongNumber 9 = .ok (.invokevirtual 18, 3) := by decide +kernel
theorem dX2_wrongNumber_12 : decode cX2_wrongNumber 12 = .ok (.putfield 82, 3) := by decide +kernel
theorem dX2_wrongNumber_15 : decode cX2_wrongNumber 15 = .ok (.iload_n 3, 1) := by decide +kernel
theorem dX2_wrongNumber_16 : decode cX2_wrongNumber 16 = .ok (.iload 4, 2) := by decide +kernel
theorem dX2_wrongNumber_18 : decode cX2_wrongNumber 18 = .ok (.if_icmp .ge 11, 3) := by decide +kernel
theorem dX2_wrongNumber_21 : decode cX2_wrongNumber 21 = .ok (.aload_n 2, 1) := by decide +kernel
theorem dX2_wrongNumber_22 : decode cX2_wrongNumber 22 = .ok (.getfield 82, 3) := by decide +kernel
theorem dX2_wrongNumber_25 : decode cX2_wrongNumber 25 = .ok (.iconst 4, 1) := by decide +kernel
theorem dX2_wrongNumber_26 : decode cX2_wrongNumber 26 = .ok (.if_icmp .le 5, 3) := by decide +kernel
theorem dX2_wrongNumber_29 : decode cX2_wrongNumber 29 = .ok (.iload_n 3, 1) := by decide +kernel
theorem dX2_wrongNumber_30 : decode cX2_wrongNumber 30 = .ok (.ireturn, 1) := by decide +kernel
theorem dX2_wrongNumber_31 : decode cX2_wrongNumber 31 = .ok (.aload_n 2, 1) := by decide +kernel
theorem dX2_wrongNumber_32 : decode cX2_wrongNumber 32 = .ok (.aload_n 1, 1) := by decide +kernel
theorem dX2_wrongNumber_33 : decode cX2_wrongNumber 33 = .ok (.iload_n 3, 1) := by decide +kernel
theorem dX2_wrongNumber_34 : decode cX2_wrongNumber 34 = .ok (.iconst 1, 1) := by decide +kernel
theorem dX2_wrongNumber_35 : decode cX2_wrongNumber 35 = .ok (.iadd, 1) := by decide +kernel
theorem dX2_wrongNumber_36 : decode cX2_wrongNumber 36 = .ok (.invokevirtual 18, 3) := by decide +kernel
theorem dX2_wrongNumber_39 : decode cX2_wrongNumber 39 = .ok (.putfield 85, 3) := by decide +kernel
theorem dX2_wrongNumber_42 : decode cX2_wrongNumber 42 = .ok (.iload_n 3, 1) := by decide +kernel
theorem dX2_wrongNumber_43 : decode cX2_wrongNumber 43 = .ok (.iconst 1, 1) := by decide +kernel
theorem dX2_wrongNumber_44 : decode cX2_wrongNumber 44 = .ok (.iadd, 1) := by decide +kernel
theorem dX2_wrongNumber_45 : decode cX2_wrongNumber 45 = .ok (.iload 4, 2) := by decide +kernel
theorem dX2_wrongNumber_47 : decode cX2_wrongNumber 47 = .ok (.if_icmp .lt 6, 3) := by decide +kernel
theorem dX2_wrongNumber_50 : decode cX2_wrongNumber 50 = .ok (.iload 4, 2) := by decide +kernel
theorem dX2_wrongNumber_52 : decode cX2_wrongNumber 52 = .ok (.ireturn, 1) := by decide +kernel
theorem dX2_wrongNumber_53 : decode cX2_wrongNumber 53 = .ok (.aload_n 2, 1) := by decide +kernel
theorem dX2_wrongNumber_54 : decode cX2_wrongNumber 54 = .ok (.getfield 85, 3) := by decide +kernel
theorem dX2_wrongNumber_57 : decode cX2_wrongNumber 57 = .ok (.aload_n 2, 1) := by decide +kernel
theorem dX2_wrongNumber_58 : decode cX2_wrongNumber 58 = .ok (.getfield 82, 3) := by decide +kernel
theorem dX2_wrongNumber_61 : decode cX2_wrongNumber 61 = .ok (.if_icmp .lt 12, 3) := by decide +kernel
theorem dX2_wrongNumber_64 : decode cX2_wrongNumber 64 = .ok (.aload_n 2, 1) := by decide +kernel
theorem dX2_wrongNumber_65 : decode cX2_wrongNumber 65 = .ok (.getfield 85, 3) := by decide +kernel
theorem dX2_wrongNumber_68 : decode cX2_wrongNumber 68 = .ok (.bipush 20, 2) := by decide +kernel
theorem dX2_wrongNumber_70 : decode cX2_wrongNumber 70 = .ok (.if_icmp .le 7, 3) := by decide +kernel
theorem dX2_wrongNumber_73 : decode cX2_wrongNumber 73 = .ok (.iload_n 3, 1) := by decide +kernel
theorem dX2_wrongNumber_74 : decode cX2_wrongNumber 74 = .ok (.iconst 1, 1) := by decide +kernel
theorem dX2_wrongNumber_75 : decode cX2_wrongNumber 75 = .ok (.iadd, 1) := by decide +kernel
theorem dX2_wrongNumber_76 : decode cX2_wrongNumber 76 = .ok (.ireturn, 1) := by decide +kernel
theorem dX2_wrongNumber_77 : decode cX2_wrongNumber 77 = .ok (.aload_n 2, 1) := by decide +kernel
theorem dX2_wrongNumber_78 : decode cX2_wrongNumber 78 = .ok (.aload_n 1, 1) := by decide +kernel
theorem dX2_wrongNumber_79 : decode cX2_wrongNumber 79 = .ok (.iload_n 3, 1) := by decide +kernel
theorem dX2_wrongNumber_80 : decode cX2_wrongNumber 80 = .ok (.iconst 2, 1) := by decide +kernel
theorem dX2_wrongNumber_81 : decode cX2_wrongNumber 81 = .ok (.iadd, 1) := by decide +kernel
theorem dX2_wrongNumber_82 : decode cX2_wrongNumber 82 = .ok (.invokevirtual 88, 3) := by decide +kernel
theorem dX2_wrongNumber_85 : decode cX2_wrongNumber 85 = .ok (.putfield 59, 3) := by decide +kernel
theorem dX2_wrongNumber_88 : decode cX2_wrongNumber 88 = .ok (.aload_n 2, 1) := by decide +kernel
theorem dX2_wrongNumber_89 : decode cX2_wrongNumber 89 = .ok (.iload_n 3, 1) := by decide +kernel
theorem dX2_wrongNumber_90 : decode cX2_wrongNumber 90 = .ok (.iconst 4, 1) := by decide +kernel
theorem dX2_wrongNumber_91 : decode cX2_wrongNumber 91 = .ok (.iadd, 1) := by decide +kernel
theorem dX2_wrongNumber_92 : decode cX2_wrongNumber 92 = .ok (.putfield 56, 3) := by decide +kernel
theorem dX2_wrongNumber_95 : decode cX2_wrongNumber 95 = .ok (.iload_n 3, 1) := by decide +kernel
theorem dX2_wrongNumber_96 : decode cX2_wrongNumber 96 = .ok (.iconst 2, 1) := by decide +kernel
theorem dX2_wrongNumber_97 : decode cX2_wrongNumber 97 = .ok (.iadd, 1) := by decide +kernel
theorem dX2_wrongNumber_98 : decode cX2_wrongNumber 98 = .ok (.iconst 1, 1) := by decide +kernel
theorem dX2_wrongNumber_99 : decode cX2_wrongNumber 99 = .ok (.iadd, 1) := by decide +kernel
theorem dX2_wrongNumber_100 : decode cX2_wrongNumber 100 = .ok (.iload 4, 2) := by decide +kernel
theorem dX2_wrongNumber_102 : decode cX2_wrongNumber 102 = .ok (.if_icmp .lt 6, 3) := by decide +kernel
theorem dX2_wrongNumber_105 : decode cX2_wrongNumber 105 = .ok (.iload 4, 2) := by decide +kernel
theorem dX2_wrongNumber_107 : decode cX2_wrongNumber 107 = .ok (.ireturn, 1) := by decide +kernel
theorem dX2_wrongNumber_108 : decode cX2_wrongNumber 108 = .ok (.aload_n 2, 1) := by decide +kernel
theorem dX2_wrongNumber_109 : decode cX2_wrongNumber 109 = .ok (.getfield 59, 3) := by decide +kernel
theorem dX2_wrongNumber_112 : decode cX2_wrongNumber 112 = .ok (.iconst 1, 1) := by decide +kernel
theorem dX2_wrongNumber_113 : decode cX2_wrongNumber 113 = .ok (.if_icmp .lt 13, 3) := by decide +kernel
theorem dX2_wrongNumber_116 : decode cX2_wrongNumber 116 = .ok (.aload_n 2, 1) := by decide +kernel
theorem dX2_wrongNumber_117 : decode cX2_wrongNumber 117 = .ok (.getfield 59, 3) := by decide +kernel
theorem dX2_wrongNumber_120 : decode cX2_wrongNumber 120 = .ok (.sipush 2000, 3) := by decide +kernel
theorem dX2_wrongNumber_123 : decode cX2_wrongNumber 123 = .ok (.if_icmp .le 7, 3) := by decide +kernel
theorem dX2_wrongNumber_126 : decode cX2_wrongNumber 126 = .ok (.iload_n 3, 1) := by decide +kernel
theorem dX2_wrongNumber_127 : decode cX2_wrongNumber 127 = .ok (.iconst 2, 1) := by decide +kernel
theorem dX2_wrongNumber_128 : decode cX2_wrongNumber 128 = .ok (.iadd, 1) := by decide +kernel
theorem dX2_wrongNumber_129 : decode cX2_wrongNumber 129 = .ok (.ireturn, 1) := by decide +kernel
theorem dX2_wrongNumber_130 : decode cX2_wrongNumber 130 = .ok (.aload_n 0, 1) := by decide +kernel
theorem dX2_wrongNumber_131 : decode cX2_wrongNumber 131 = .ok (.aload_n 1, 1) := by decide +kernel
theorem dX2_wrongNumber_132 : decode cX2_wrongNumber 132 = .ok (.aload_n 2, 1) := by decide +kernel
theorem dX2_wrongNumber_133 : decode cX2_wrongNumber 133 = .ok (.invokevirtual 91, 3) := by decide +kernel
theorem dX2_wrongNumber_136 : decode cX2_wrongNumber 136 = .ok (.ireturn, 1) := by decide +kernel
abbrev wcX2_wrongNumber : List Cond := .code yX2_wrongNumber cX2_wrongNumber 5 (some .int) :: wsL_law
def fX2_wrongNumber (v0 : Nat) (v1 : Nat) (v2 : Nat) (v3 : Int32) (g : hs_S) : Option (Int32 × hs_S) :=
  if hs_kd g v1 = 0 then
  hs_bd (fX0_valueAt v1 v3 g) fun r3 g2 =>
  if hs_kd g2 v2 = 6 then
  if (hs_I g v1 3) ≤ v3 then (
    some (v3, (hs_wI g2 v2 4 r3))
  ) else (
    if (hs_I (hs_wI g2 v2 4 r3) v2 4) ≤ (4 : Int32) then (
      if hs_kd (hs_wI g2 v2 4 r3) v1 = 0 then
      hs_bd (fX0_valueAt v1 (v3 + (1 : Int32)) (hs_wI g2 v2 4 r3)) fun r8 g7 =>
      if hs_kd g7 v2 = 6 then
      if (v3 + (1 : Int32)) < (hs_I g v1 3) then (
        if (hs_I (hs_wI g7 v2 5 r8) v2 5) < (hs_I (hs_wI g7 v2 5 r8) v2 4) then (
          some ((v3 + (1 : Int32)), (hs_wI g7 v2 5 r8))
        ) else (
          if (hs_I (hs_wI g7 v2 5 r8) v2 5) ≤ (20 : Int32) then (
            if hs_kd (hs_wI g7 v2 5 r8) v1 = 0 then
            hs_bd (fX0_pairAt v1 (v3 + (2 : Int32)) (hs_wI g7 v2 5 r8)) fun r13 g12 =>
            if hs_kd g12 v2 = 6 then
            if ((v3 + (2 : Int32)) + (1 : Int32)) < (hs_I g v1 3) then (
              if (hs_I (hs_wI (hs_wI g12 v2 3 r13) v2 2 (v3 + (4 : Int32))) v2 3) < (1 : Int32) then (
                some ((v3 + (2 : Int32)), (hs_wI (hs_wI g12 v2 3 r13) v2 2 (v3 + (4 : Int32))))
              ) else (
                if (hs_I (hs_wI (hs_wI g12 v2 3 r13) v2 2 (v3 + (4 : Int32))) v2 3) ≤ (2000 : Int32) then (
                  if hs_kd (hs_wI (hs_wI g12 v2 3 r13) v2 2 (v3 + (4 : Int32))) v0 = 2 then
                  hs_bd (fX2_wrongHandlerCount v0 v1 v2 (hs_wI (hs_wI g12 v2 3 r13) v2 2 (v3 + (4 : Int32)))) fun r18 g17 =>
                  some (r18, g17)
                  else none
                ) else (
                  some ((v3 + (2 : Int32)), (hs_wI (hs_wI g12 v2 3 r13) v2 2 (v3 + (4 : Int32))))
                )
              )
            ) else (
              some ((hs_I g v1 3), (hs_wI (hs_wI g12 v2 3 r13) v2 2 (v3 + (4 : Int32))))
            )
            else none else none
          ) else (
            some ((v3 + (1 : Int32)), (hs_wI g7 v2 5 r8))
          )
        )
      ) else (
        some ((hs_I g v1 3), (hs_wI g7 v2 5 r8))
      )
      else none else none
    ) else (
      some (v3, (hs_wI g2 v2 4 r3))
    )
  )
  else none else none
abbrev rmX2_wrongNumber : Room := { frames := 3, cells := 0, slots := 0, locals := 66 }
set_option maxHeartbeats 4000000 in
set_option maxRecDepth 100000 in
theorem ctX2_wrongNumber (l : Launch) (B : Nat) (D : va_G) (E : Nat → ClassId) (v0 : Nat) (v1 : Nat) (v2 : Nat) (v3 : Int32) (g : hs_S) (o : Int32 × hs_S) (hf : fX2_wrongNumber v0 v1 v2 v3 g = some o) : Met l yX2_wrongNumber wcX2_wrongNumber rmX2_wrongNumber (hs_Pc B D E g [.ref (B + v0), .ref (B + v1), .ref (B + v2), .int v3]) (hs_Qi B D E o) (0) (0) (hs_F B) := by
  refine Met.ofW (cc := cX2_wrongNumber) (maxL := 5) (ret := (some .int)) (by decide) rfl ?_
  intro p e s m args below meth c s₁ Bd hml hv
  obtain ⟨rfl, hP, hK⟩ := hv
  have hx := Bd.exec
  have hb := Bd.bytes
  have hr := Bd.returns
  have hts := atoms_spec (ws := wcX2_wrongNumber) Bd.pre
  have hown : s.vm.findClass RX2 = some m.cls := findClass_of_methodNamed Bd.named
  have hlocks := Bd.notSynchronized
  have hS : hs_Sx B s.heap s.heap [] := va_S.rf
  have hX : hs_cx cX2_wrongNumber (some .int) 5 RX2 wcX2_wrongNumber p s m (List.toArray [.ref (B + v0), .ref (B + v1), .ref (B + v2), .int v3]) meth c D E := ⟨hx, hb, hr, hml, hown, hts, hlocks, hK⟩
  have hl := lv_entry ([.ref (B + v0), .ref (B + v1), .ref (B + v2), .int v3]) (n := 5) (Nat.le_of_ble_eq_true rfl)
  rw [lg_entry_eq]
  generalize (lg_sl ([.ref (B + v0), .ref (B + v1), .ref (B + v2), .int v3]) ++ List.replicate (5 - (lg_sl ([.ref (B + v0), .ref (B + v1), .ref (B + v2), .int v3])).length) Slot.unset).toArray = ls at hl ⊢
  have hl : lv_has ls 5 [(0, .ref (B + v0)), (1, .ref (B + v1)), (2, .ref (B + v2)), (3, .int v3)] := hl
  have hP : hs_P B D E g s.heap := hP
  unfold fX2_wrongNumber at hf
  refine lv_aload_n hx hb dX2_wrongNumber_0 rfl (lv_at hl 1 rfl) ?_
  obtain ⟨h1, hf⟩ := hs_ck hf
  refine hs_geti (C := RX0) (T := TX0) (N := 5) hx hb hts (fun w h => List.mem_cons_of_mem _ (inlX0 w h)) hown hK.1 hP h1 (by decide) rfl 3 (by decide) (hts _ (List.mem_cons_of_mem _ wq187)) (fun _ h => h) rfl dX2_wrongNumber_1 ?_
  refine lv_istore (lv' := [(4, .int (hs_I g v1 3)), (0, .ref (B + v0)), (1, .ref (B + v1)), (2, .ref (B + v2)), (3, .int v3)]) hx hb dX2_wrongNumber_4 hl (by decide) rfl (fun ls hl => ?_)
  refine lv_aload_n hx hb dX2_wrongNumber_6 rfl (lv_at hl 3 rfl) ?_
  refine lv_aload_n hx hb dX2_wrongNumber_7 rfl (lv_at hl 2 rfl) ?_
  refine lv_iload_n hx hb dX2_wrongNumber_8 rfl (lv_at hl 4 rfl) ?_
  obtain ⟨r3, g2, h4, hf⟩ := hs_bd_some hf
  refine hs_calli (va_runV (As := [.int v3]) (rest := [.ref (B + v2)]) ⟨hx, hb, hml, hown, hts⟩ (ctX0_valueAt l B D E v1 v3 g _ h4) (cwV 1 hts (hs_gV (fun _ h => List.mem_cons_of_mem _ h) wq188 wq189 wq190 wq15 wq191) rfl rfl rfl (by decide +kernel) ⟨Nat.le_of_ble_eq_true rfl, Nat.le_of_ble_eq_true rfl⟩) (hs_preV (r := (RX0, TX0, 5)) hP hK h1 (by decide) rfl) rfl rfl hl.1 rfl (lv_room (Nat.le_of_ble_eq_true rfl)) dX2_wrongNumber_9 ⟨(Nat.le_of_ble_eq_true rfl), (Nat.le_of_ble_eq_true rfl)⟩) hS (fun H locs hP hS => ?_)
  obtain ⟨h5, hf⟩ := hs_ck hf
  refine hs_puti (C := RX7) (T := TX7) (N := 11) hx hb hts (fun w h => List.mem_cons_of_mem _ (inlX7 w h)) tyX7 tyX7_ok nmX7 hown hK.1 hP hS h5 (by decide) rfl 4 (by decide) (hts _ (List.mem_cons_of_mem _ wq217)) (fun _ h => h) (Or.inl rfl) rfl rfl rfl dX2_wrongNumber_12 (fun H locs hP hS => ?_)
  refine lv_iload_n hx hb dX2_wrongNumber_15 rfl (lv_at hl 4 rfl) ?_
  refine lv_iload hx hb dX2_wrongNumber_16 (lv_at hl 0 rfl) ?_
  refine lv_icmp_ge (tgt := 29) hx hb dX2_wrongNumber_18 (by decide) (fun hc => ?_) (fun hc => ?_)
  · replace hf := hs_t hf hc
    refine lv_iload_n hx hb dX2_wrongNumber_29 rfl (lv_at hl 4 rfl) ?_
    exact hs_iret hx hb hr hlocks rfl hK hP hS hf dX2_wrongNumber_30
  · replace hf := hs_f hf hc
    refine lv_aload_n hx hb dX2_wrongNumber_21 rfl (lv_at hl 3 rfl) ?_
    refine hs_geti (C := RX7) (T := TX7) (N := 11) hx hb hts (fun w h => List.mem_cons_of_mem _ (inlX7 w h)) hown hK.1 hP h5 (by decide) rfl 4 (by decide) (hts _ (List.mem_cons_of_mem _ wq217)) (fun _ h => h) rfl dX2_wrongNumber_22 ?_
    refine lv_iconst (v := 4) hx hb dX2_wrongNumber_25 (by decide) ?_
    refine lv_icmp_le (tgt := 31) hx hb dX2_wrongNumber_26 (by decide) (fun hc => ?_) (fun hc => ?_)
    · replace hf := hs_t hf hc
      refine lv_aload_n hx hb dX2_wrongNumber_31 rfl (lv_at hl 3 rfl) ?_
      refine lv_aload_n hx hb dX2_wrongNumber_32 rfl (lv_at hl 2 rfl) ?_
      refine lv_iload_n hx hb dX2_wrongNumber_33 rfl (lv_at hl 4 rfl) ?_
      refine lv_iconst (v := 1) hx hb dX2_wrongNumber_34 (by decide) ?_
      refine lv_iadd hx hb dX2_wrongNumber_35 ?_
      obtain ⟨h6, hf⟩ := hs_ck hf
      obtain ⟨r8, g7, h9, hf⟩ := hs_bd_some hf
      refine hs_calli (va_runV (As := [.int (v3 + (1 : Int32))]) (rest := [.ref (B + v2)]) ⟨hx, hb, hml, hown, hts⟩ (ctX0_valueAt l B D E v1 (v3 + (1 : Int32)) (hs_wI g2 v2 4 r3) _ h9) (cwV 1 hts (hs_gV (fun _ h => List.mem_cons_of_mem _ h) wq188 wq189 wq190 wq15 wq191) rfl rfl rfl (by decide +kernel) ⟨Nat.le_of_ble_eq_true rfl, Nat.le_of_ble_eq_true rfl⟩) (hs_preV (r := (RX0, TX0, 5)) hP hK h6 (by decide) rfl) rfl rfl hl.1 rfl (lv_room (Nat.le_of_ble_eq_true rfl)) dX2_wrongNumber_36 ⟨(Nat.le_of_ble_eq_true rfl), (Nat.le_of_ble_eq_true rfl)⟩) hS (fun H locs hP hS => ?_)
      obtain ⟨h10, hf⟩ := hs_ck hf
      refine hs_puti (C := RX7) (T := TX7) (N := 11) hx hb hts (fun w h => List.mem_cons_of_mem _ (inlX7 w h)) tyX7 tyX7_ok nmX7 hown hK.1 hP hS h10 (by decide) rfl 5 (by decide) (hts _ (List.mem_cons_of_mem _ wq218)) (fun _ h => h) (Or.inl rfl) rfl rfl rfl dX2_wrongNumber_39 (fun H locs hP hS => ?_)
      refine lv_iload_n hx hb dX2_wrongNumber_42 rfl (lv_at hl 4 rfl) ?_
      refine lv_iconst (v := 1) hx hb dX2_wrongNumber_43 (by decide) ?_
      refine lv_iadd hx hb dX2_wrongNumber_44 ?_
      refine lv_iload hx hb dX2_wrongNumber_45 (lv_at hl 0 rfl) ?_
      refine lv_icmp_lt (tgt := 53) hx hb dX2_wrongNumber_47 (by decide) (fun hc => ?_) (fun hc => ?_)
      · replace hf := hs_t hf hc
        refine lv_aload_n hx hb dX2_wrongNumber_53 rfl (lv_at hl 3 rfl) ?_
        refine hs_geti (C := RX7) (T := TX7) (N := 11) hx hb hts (fun w h => List.mem_cons_of_mem _ (inlX7 w h)) hown hK.1 hP h10 (by decide) rfl 5 (by decide) (hts _ (List.mem_cons_of_mem _ wq218)) (fun _ h => h) rfl dX2_wrongNumber_54 ?_
        refine lv_aload_n hx hb dX2_wrongNumber_57 rfl (lv_at hl 3 rfl) ?_
        refine hs_geti (C := RX7) (T := TX7) (N := 11) hx hb hts (fun w h => List.mem_cons_of_mem _ (inlX7 w h)) hown hK.1 hP h10 (by decide) rfl 4 (by decide) (hts _ (List.mem_cons_of_mem _ wq217)) (fun _ h => h) rfl dX2_wrongNumber_58 ?_
        refine lv_icmp_lt (tgt := 73) hx hb dX2_wrongNumber_61 (by decide) (fun hc => ?_) (fun hc => ?_)
        · replace hf := hs_t hf hc
          refine lv_iload_n hx hb dX2_wrongNumber_73 rfl (lv_at hl 4 rfl) ?_
          refine lv_iconst (v := 1) hx hb dX2_wrongNumber_74 (by decide) ?_
          refine lv_iadd hx hb dX2_wrongNumber_75 ?_
          exact hs_iret hx hb hr hlocks rfl hK hP hS hf dX2_wrongNumber_76
        · replace hf := hs_f hf hc
          refine lv_aload_n hx hb dX2_wrongNumber_64 rfl (lv_at hl 3 rfl) ?_
          refine hs_geti (C := RX7) (T := TX7) (N := 11) hx hb hts (fun w h => List.mem_cons_of_mem _ (inlX7 w h)) hown hK.1 hP h10 (by decide) rfl 5 (by decide) (hts _ (List.mem_cons_of_mem _ wq218)) (fun _ h => h) rfl dX2_wrongNumber_65 ?_
          refine lv_bipush (v := 20) hx hb dX2_wrongNumber_68 (by decide) ?_
          refine lv_icmp_le (tgt := 77) hx hb dX2_wrongNumber_70 (by decide) (fun hc => ?_) (fun hc => ?_)
          · replace hf := hs_t hf hc
            refine lv_aload_n hx hb dX2_wrongNumber_77 rfl (lv_at hl 3 rfl) ?_
            refine lv_aload_n hx hb dX2_wrongNumber_78 rfl (lv_at hl 2 rfl) ?_
            refine lv_iload_n hx hb dX2_wrongNumber_79 rfl (lv_at hl 4 rfl) ?_
            refine lv_iconst (v := 2) hx hb dX2_wrongNumber_80 (by decide) ?_
            refine lv_iadd hx hb dX2_wrongNumber_81 ?_
            obtain ⟨h11, hf⟩ := hs_ck hf
            obtain ⟨r13, g12, h14, hf⟩ := hs_bd_some hf
            refine hs_calli (va_runV (As := [.int (v3 + (2 : Int32))]) (rest := [.ref (B + v2)]) ⟨hx, hb, hml, hown, hts⟩ (ctX0_pairAt l B D E v1 (v3 + (2 : Int32)) (hs_wI g7 v2 5 r8) _ h14) (cwV 1 hts (hs_gV (fun _ h => List.mem_cons_of_mem _ h) wq221 wq222 wq223 wq15 wq224) rfl rfl rfl (by decide +kernel) ⟨Nat.le_of_ble_eq_true rfl, Nat.le_of_ble_eq_true rfl⟩) (hs_preV (r := (RX0, TX0, 5)) hP hK h11 (by decide) rfl) rfl rfl hl.1 rfl (lv_room (Nat.le_of_ble_eq_true rfl)) dX2_wrongNumber_82 ⟨(Nat.le_of_ble_eq_true rfl), (Nat.le_of_ble_eq_true rfl)⟩) hS (fun H locs hP hS => ?_)
            obtain ⟨h15, hf⟩ := hs_ck hf
            refine hs_puti (C := RX7) (T := TX7) (N := 11) hx hb hts (fun w h => List.mem_cons_of_mem _ (inlX7 w h)) tyX7 tyX7_ok nmX7 hown hK.1 hP hS h15 (by decide) rfl 3 (by decide) (hts _ (List.mem_cons_of_mem _ wq219)) (fun _ h => h) (Or.inl rfl) rfl rfl rfl dX2_wrongNumber_85 (fun H locs hP hS => ?_)
            refine lv_aload_n hx hb dX2_wrongNumber_88 rfl (lv_at hl 3 rfl) ?_
            refine lv_iload_n hx hb dX2_wrongNumber_89 rfl (lv_at hl 4 rfl) ?_
            refine lv_iconst (v := 4) hx hb dX2_wrongNumber_90 (by decide) ?_
            refine lv_iadd hx hb dX2_wrongNumber_91 ?_
            refine hs_puti (C := RX7) (T := TX7) (N := 11) hx hb hts (fun w h => List.mem_cons_of_mem _ (inlX7 w h)) tyX7 tyX7_ok nmX7 hown hK.1 hP hS h15 (by decide) rfl 2 (by decide) (hts _ (List.mem_cons_of_mem _ wq220)) (fun _ h => h) (Or.inl rfl) rfl rfl rfl dX2_wrongNumber_92 (fun H locs hP hS => ?_)
            refine lv_iload_n hx hb dX2_wrongNumber_95 rfl (lv_at hl 4 rfl) ?_
            refine lv_iconst (v := 2) hx hb dX2_wrongNumber_96 (by decide) ?_
            refine lv_iadd hx hb dX2_wrongNumber_97 ?_
            refine lv_iconst (v := 1) hx hb dX2_wrongNumber_98 (by decide) ?_
            refine lv_iadd hx hb dX2_wrongNumber_99 ?_
            refine lv_iload hx hb dX2_wrongNumber_100 (lv_at hl 0 rfl) ?_
            refine lv_icmp_lt (tgt := 108) hx hb dX2_wrongNumber_102 (by decide) (fun hc => ?_) (fun hc => ?_)
            · replace hf := hs_t hf hc
              refine lv_aload_n hx hb dX2_wrongNumber_108 rfl (lv_at hl 3 rfl) ?_
              refine hs_geti (C := RX7) (T := TX7) (N := 11) hx hb hts (fun w h => List.mem_cons_of_mem _ (inlX7 w h)) hown hK.1 hP h15 (by decide) rfl 3 (by decide) (hts _ (List.mem_cons_of_mem _ wq219)) (fun _ h => h) rfl dX2_wrongNumber_109 ?_
              refine lv_iconst (v := 1) hx hb dX2_wrongNumber_112 (by decide) ?_
              refine lv_icmp_lt (tgt := 126) hx hb dX2_wrongNumber_113 (by decide) (fun hc => ?_) (fun hc => ?_)
              · replace hf := hs_t hf hc
                refine lv_iload_n hx hb dX2_wrongNumber_126 rfl (lv_at hl 4 rfl) ?_
                refine lv_iconst (v := 2) hx hb dX2_wrongNumber_127 (by decide) ?_
                refine lv_iadd hx hb dX2_wrongNumber_128 ?_
                exact hs_iret hx hb hr hlocks rfl hK hP hS hf dX2_wrongNumber_129
              · replace hf := hs_f hf hc
                refine lv_aload_n hx hb dX2_wrongNumber_116 rfl (lv_at hl 3 rfl) ?_
                refine hs_geti (C := RX7) (T := TX7) (N := 11) hx hb hts (fun w h => List.mem_cons_of_mem _ (inlX7 w h)) hown hK.1 hP h15 (by decide) rfl 3 (by decide) (hts _ (List.mem_cons_of_mem _ wq219)) (fun _ h => h) rfl dX2_wrongNumber_117 ?_
                refine lv_sipush (v := 2000) hx hb dX2_wrongNumber_120 (by decide) ?_
                refine lv_icmp_le (tgt := 130) hx hb dX2_wrongNumber_123 (by decide) (fun hc => ?_) (fun hc => ?_)
                · replace hf := hs_t hf hc
                  refine lv_aload_n hx hb dX2_wrongNumber_130 rfl (lv_at hl 1 rfl) ?_
                  refine lv_aload_n hx hb dX2_wrongNumber_131 rfl (lv_at hl 2 rfl) ?_
                  refine lv_aload_n hx hb dX2_wrongNumber_132 rfl (lv_at hl 3 rfl) ?_
                  obtain ⟨h16, hf⟩ := hs_ck hf
                  obtain ⟨r18, g17, h19, hf⟩ := hs_bd_some hf
                  refine hs_calli (va_runV (As := [.ref (B + v1), .ref (B + v2)]) (rest := []) ⟨hx, hb, hml, hown, hts⟩ (ctX2_wrongHandlerCount l B D E v0 v1 v2 (hs_wI (hs_wI g12 v2 3 r13) v2 2 (v3 + (4 : Int32))) _ h19) (cwV 2 hts (hs_gV (fun _ h => List.mem_cons_of_mem _ h) wq226 wq227 wq228 wq26 wq229) rfl rfl rfl (by decide +kernel) ⟨Nat.le_of_ble_eq_true rfl, Nat.le_of_ble_eq_true rfl⟩) (hs_preV (r := (RX2, TX2, 1)) hP hK h16 (by decide) rfl) rfl rfl hl.1 rfl (lv_room (Nat.le_of_ble_eq_true rfl)) dX2_wrongNumber_133 ⟨(Nat.le_of_ble_eq_true rfl), (Nat.le_of_ble_eq_true rfl)⟩) hS (fun H locs hP hS => ?_)
                  exact hs_iret hx hb hr hlocks rfl hK hP hS hf dX2_wrongNumber_136
                · replace hf := hs_f hf hc
                  refine lv_iload_n hx hb dX2_wrongNumber_126 rfl (lv_at hl 4 rfl) ?_
                  refine lv_iconst (v := 2) hx hb dX2_wrongNumber_127 (by decide) ?_
                  refine lv_iadd hx hb dX2_wrongNumber_128 ?_
                  exact hs_iret hx hb hr hlocks rfl hK hP hS hf dX2_wrongNumber_129
            · replace hf := hs_f hf hc
              refine lv_iload hx hb dX2_wrongNumber_105 (lv_at hl 0 rfl) ?_
              exact hs_iret hx hb hr hlocks rfl hK hP hS hf dX2_wrongNumber_107
          · replace hf := hs_f hf hc
            refine lv_iload_n hx hb dX2_wrongNumber_73 rfl (lv_at hl 4 rfl) ?_
            refine lv_iconst (v := 1) hx hb dX2_wrongNumber_74 (by decide) ?_
            refine lv_iadd hx hb dX2_wrongNumber_75 ?_
            exact hs_iret hx hb hr hlocks rfl hK hP hS hf dX2_wrongNumber_76
      · replace hf := hs_f hf hc
        refine lv_iload hx hb dX2_wrongNumber_50 (lv_at hl 0 rfl) ?_
        exact hs_iret hx hb hr hlocks rfl hK hP hS hf dX2_wrongNumber_52
    · replace hf := hs_f hf hc
      refine lv_iload_n hx hb dX2_wrongNumber_29 rfl (lv_at hl 4 rfl) ?_
      exact hs_iret hx hb hr hlocks rfl hK hP hS hf dX2_wrongNumber_30

theorem dX7_hasPlace_0 : decode cX7_hasPlace 0 = .ok (.iload_n 1, 1) := by decide +kernel
theorem dX7_hasPlace_1 : decode cX7_hasPlace 1 = .ok (.ifCond .lt 36, 3) := by decide +kernel
theorem dX7_hasPlace_4 : decode cX7_hasPlace 4 = .ok (.iload_n 1, 1) := by decide +kernel
theorem dX7_hasPlace_5 : decode cX7_hasPlace 5 = .ok (.aload_n 0, 1) := by decide +kernel
theorem dX7_hasPlace_6 : decode cX7_hasPlace 6 = .ok (.getfield 22, 3) := by decide +kernel
theorem dX7_hasPlace_9 : decode cX7_hasPlace 9 = .ok (.if_icmp .ge 28, 3) := by decide +kernel
theorem dX7_hasPlace_12 : decode cX7_hasPlace 12 = .ok (.aload_n 0, 1) := by decide +kernel
theorem dX7_hasPlace_13 : decode cX7_hasPlace 13 = .ok (.getfield 18, 3) := by decide +kernel
theorem dX7_hasPlace_16 : decode cX7_hasPlace 16 = .ok (.ifCond .lt 21, 3) := by decide +kernel
theorem dX7_hasPlace_19 : decode cX7_hasPlace 19 = .ok (.aload_n 0, 1) := by decide +kernel
theorem dX7_hasPlace_20 : decode cX7_hasPlace 20 = .ok (.getfield 18, 3) := by decide +kernel
theorem dX7_hasPlace_23 : decode cX7_hasPlace 23 = .ok (.iload_n 1, 1) := by decide +kernel
theorem dX7_hasPlace_24 : decode cX7_hasPlace 24 = .ok (.iadd, 1) := by decide +kernel
theorem dX7_hasPlace_25 : decode cX7_hasPlace 25 = .ok (.aload_n 0, 1) := by decide +kernel
theorem dX7_hasPlace_26 : decode cX7_hasPlace 26 = .ok (.getfield 15, 3) := by decide +kernel
theorem dX7_hasPlace_29 : decode cX7_hasPlace 29 = .ok (.arraylength, 1) := by decide +kernel
theorem dX7_hasPlace_30 : decode cX7_hasPlace 30 = .ok (.if_icmp .ge 7, 3) := by decide +kernel
theorem dX7_hasPlace_33 : decode cX7_hasPlace 33 = .ok (.iconst 1, 1) := by decide +kernel
theorem dX7_hasPlace_34 : decode cX7_hasPlace 34 = .ok (.goto 4, 3) := by decide +kernel
theorem dX7_hasPlace_37 : decode cX7_hasPlace 37 = .ok (.iconst 0, 1) := by decide +kernel
theorem dX7_hasPlace_38 : decode cX7_hasPlace 38 = .ok (.ireturn, 1) := by decide +kernel
abbrev wcX7_hasPlace : List Cond := .code yX7_hasPlace cX7_hasPlace 2 (some .boolean) :: wsL_law
def fX7_hasPlace (v0 : Nat) (v1 : Int32) (g : hs_S) : Option (Int32 × hs_S) :=
  if v1 < 0 then (
    some ((0 : Int32), g)
  ) else (
    if hs_kd g v0 = 6 then
    if (hs_I g v0 3) ≤ v1 then (
      some ((0 : Int32), g)
    ) else (
      if (hs_I g v0 2) < 0 then (
        some ((0 : Int32), g)
      ) else (
        if ¬ (hs_R g v0 0) = 0 then
        if hs_kd g ((hs_R g v0 0) - 1) = 100 then
        if (Int32.ofNat (hs_ln g ((hs_R g v0 0) - 1))) ≤ ((hs_I g v0 2) + v1) then (
          some ((0 : Int32), g)
        ) else (
          some ((1 : Int32), g)
        )
        else none else none
      )
    )
    else none
  )
abbrev rmX7_hasPlace : Room := { frames := 0, cells := 0, slots := 0, locals := 0 }
set_option maxHeartbeats 4000000 in
set_option maxRecDepth 100000 in
theorem ctX7_hasPlace (l : Launch) (B : Nat) (D : va_G) (E : Nat → ClassId) (v0 : Nat) (v1 : Int32) (g : hs_S) (o : Int32 × hs_S) (hf : fX7_hasPlace v0 v1 g = some o) : Met l yX7_hasPlace wcX7_hasPlace rmX7_hasPlace (hs_Pc B D E g [.ref (B + v0), .int v1]) (hs_Qi B D E o) (0) (0) (hs_F B) := by
  refine Met.ofW (cc := cX7_hasPlace) (maxL := 2) (ret := (some .boolean)) (by decide) rfl ?_
  intro p e s m args below meth c s₁ Bd hml hv
  obtain ⟨rfl, hP, hK⟩ := hv
  have hx := Bd.exec
  have hb := Bd.bytes
  have hr := Bd.returns
  have hts := atoms_spec (ws := wcX7_hasPlace) Bd.pre
  have hown : s.vm.findClass RX7 = some m.cls := findClass_of_methodNamed Bd.named
  have hlocks := Bd.notSynchronized
  have hS : hs_Sx B s.heap s.heap [] := va_S.rf
  have hX : hs_cx cX7_hasPlace (some .boolean) 2 RX7 wcX7_hasPlace p s m (List.toArray [.ref (B + v0), .int v1]) meth c D E := ⟨hx, hb, hr, hml, hown, hts, hlocks, hK⟩
  have hl := lv_entry ([.ref (B + v0), .int v1]) (n := 2) (Nat.le_of_ble_eq_true rfl)
  rw [lg_entry_eq]
  generalize (lg_sl ([.ref (B + v0), .int v1]) ++ List.replicate (2 - (lg_sl ([.ref (B + v0), .int v1])).length) Slot.unset).toArray = ls at hl ⊢
  have hl : lv_has ls 2 [(0, .ref (B + v0)), (1, .int v1)] := hl
  have hP : hs_P B D E g s.heap := hP
  unfold fX7_hasPlace at hf
  refine lv_iload_n hx hb dX7_hasPlace_0 rfl (lv_at hl 1 rfl) ?_
  refine lv_if_lt (tgt := 37) hx hb dX7_hasPlace_1 (by decide) (fun hc => ?_) (fun hc => ?_)
  · replace hf := hs_t hf hc
    refine lv_iconst (v := 0) hx hb dX7_hasPlace_37 (by decide) ?_
    exact hs_iret hx hb hr hlocks (hs_01_nar (rfl)) hK hP hS hf dX7_hasPlace_38
  · replace hf := hs_f hf hc
    refine lv_iload_n hx hb dX7_hasPlace_4 rfl (lv_at hl 1 rfl) ?_
    refine lv_aload_n hx hb dX7_hasPlace_5 rfl (lv_at hl 0 rfl) ?_
    obtain ⟨h1, hf⟩ := hs_ck hf
    refine hs_geti (C := RX7) (T := TX7) (N := 11) hx hb hts (fun w h => List.mem_cons_of_mem _ (inlX7 w h)) hown hK.1 hP h1 (by decide) rfl 3 (by decide) (hts _ (List.mem_cons_of_mem _ wq205)) (fun _ h => h) rfl dX7_hasPlace_6 ?_
    refine lv_icmp_ge (tgt := 37) hx hb dX7_hasPlace_9 (by decide) (fun hc => ?_) (fun hc => ?_)
    · replace hf := hs_t hf hc
      refine lv_iconst (v := 0) hx hb dX7_hasPlace_37 (by decide) ?_
      exact hs_iret hx hb hr hlocks (hs_01_nar (rfl)) hK hP hS hf dX7_hasPlace_38
    · replace hf := hs_f hf hc
      refine lv_aload_n hx hb dX7_hasPlace_12 rfl (lv_at hl 0 rfl) ?_
      refine hs_geti (C := RX7) (T := TX7) (N := 11) hx hb hts (fun w h => List.mem_cons_of_mem _ (inlX7 w h)) hown hK.1 hP h1 (by decide) rfl 2 (by decide) (hts _ (List.mem_cons_of_mem _ wq204)) (fun _ h => h) rfl dX7_hasPlace_13 ?_
      refine lv_if_lt (tgt := 37) hx hb dX7_hasPlace_16 (by decide) (fun hc => ?_) (fun hc => ?_)
      · replace hf := hs_t hf hc
        refine lv_iconst (v := 0) hx hb dX7_hasPlace_37 (by decide) ?_
        exact hs_iret hx hb hr hlocks (hs_01_nar (rfl)) hK hP hS hf dX7_hasPlace_38
      · replace hf := hs_f hf hc
        refine lv_aload_n hx hb dX7_hasPlace_19 rfl (lv_at hl 0 rfl) ?_
        refine hs_geti (C := RX7) (T := TX7) (N := 11) hx hb hts (fun w h => List.mem_cons_of_mem _ (inlX7 w h)) hown hK.1 hP h1 (by decide) rfl 2 (by decide) (hts _ (List.mem_cons_of_mem _ wq204)) (fun _ h => h) rfl dX7_hasPlace_20 ?_
        refine lv_iload_n hx hb dX7_hasPlace_23 rfl (lv_at hl 1 rfl) ?_
        refine lv_iadd hx hb dX7_hasPlace_24 ?_
        refine lv_aload_n hx hb dX7_hasPlace_25 rfl (lv_at hl 0 rfl) ?_
        obtain ⟨h2, hf⟩ := hs_ck hf
        refine hs_getr (C := RX7) (T := TX7) (N := 11) hx hb hts (fun w h => List.mem_cons_of_mem _ (inlX7 w h)) hown hK.1 hP h1 (by decide) rfl 0 (by decide) (hts _ (List.mem_cons_of_mem _ wq52)) (fun _ h => h) rfl h2 dX7_hasPlace_26 ?_
        obtain ⟨h3, hf⟩ := hs_ck hf
        refine hs_alen (t := 0) hx hb hK.1 hP h3 (by decide) dX7_hasPlace_29 ?_
        refine lv_icmp_ge (tgt := 37) hx hb dX7_hasPlace_30 (by decide) (fun hc => ?_) (fun hc => ?_)
        · replace hf := hs_t hf hc
          refine lv_iconst (v := 0) hx hb dX7_hasPlace_37 (by decide) ?_
          exact hs_iret hx hb hr hlocks (hs_01_nar (rfl)) hK hP hS hf dX7_hasPlace_38
        · replace hf := hs_f hf hc
          refine lv_iconst (v := 1) hx hb dX7_hasPlace_33 (by decide) ?_
          refine lv_goto (tgt := 38) hx hb dX7_hasPlace_34 (by decide) ?_
          exact hs_iret hx hb hr hlocks (hs_01_nar (rfl)) hK hP hS hf dX7_hasPlace_38

theorem dX7_valueAt_0 : decode cX7_valueAt 0 = .ok (.aload_n 0, 1) := by decide +kernel
theorem dX7_valueAt_1 : decode cX7_valueAt 1 = .ok (.iload_n 1, 1) := by decide +kernel
theorem dX7_valueAt_2 : decode cX7_valueAt 2 = .ok (.invokevirtual 46, 3) := by decide +kernel
theorem dX7_valueAt_5 : decode cX7_valueAt 5 = .ok (.ifCond .eq 21, 3) := by decide +kernel
theorem dX7_valueAt_8 : decode cX7_valueAt 8 = .ok (.aload_n 0, 1) := by decide +kernel
theorem dX7_valueAt_9 : decode cX7_valueAt 9 = .ok (.getfield 15, 3) := by decide +kernel
theorem dX7_valueAt_12 : decode cX7_valueAt 12 = .ok (.aload_n 0, 1) := by decide +kernel
theorem dX7_valueAt_13 : decode cX7_valueAt 13 = .ok (.getfield 18, 3) := by decide +kernel
theorem dX7_valueAt_16 : decode cX7_valueAt 16 = .ok (.iload_n 1, 1) := by decide +kernel
theorem dX7_valueAt_17 : decode cX7_valueAt 17 = .ok (.iadd, 1) := by decide +kernel
theorem dX7_valueAt_18 : decode cX7_valueAt 18 = .ok (.iaload, 1) := by decide +kernel
theorem dX7_valueAt_19 : decode cX7_valueAt 19 = .ok (.sipush 255, 3) := by decide +kernel
theorem dX7_valueAt_22 : decode cX7_valueAt 22 = .ok (.iand, 1) := by decide +kernel
theorem dX7_valueAt_23 : decode cX7_valueAt 23 = .ok (.goto 4, 3) := by decide +kernel
theorem dX7_valueAt_26 : decode cX7_valueAt 26 = .ok (.iconst 0, 1) := by decide +kernel
theorem dX7_valueAt_27 : decode cX7_valueAt 27 = .ok (.ireturn, 1) := by decide +kernel
abbrev wcX7_valueAt : List Cond := .code yX7_valueAt cX7_valueAt 2 (some .int) :: wsL_law
def fX7_valueAt (v0 : Nat) (v1 : Int32) (g : hs_S) : Option (Int32 × hs_S) :=
  if hs_kd g v0 = 6 then
  hs_bd (fX7_hasPlace v0 v1 g) fun r3 g2 =>
  if r3 = 0 then (
    some ((0 : Int32), g2)
  ) else (
    if hs_kd g2 v0 = 6 then
    if ¬ (hs_R g2 v0 0) = 0 then
    if hs_kd g2 ((hs_R g2 v0 0) - 1) = 100 then
    if hs_in ((hs_I g2 v0 2) + v1) (hs_ln g2 ((hs_R g2 v0 0) - 1)) = true then
    some (((hs_I g2 ((hs_R g2 v0 0) - 1) ((hs_I g2 v0 2) + v1).toNatClampNeg) &&& (255 : Int32)), g2)
    else none else none else none else none
  )
  else none
abbrev rmX7_valueAt : Room := { frames := 1, cells := 0, slots := 0, locals := 21 }
set_option maxHeartbeats 4000000 in
set_option maxRecDepth 100000 in
theorem ctX7_valueAt (l : Launch) (B : Nat) (D : va_G) (E : Nat → ClassId) (v0 : Nat) (v1 : Int32) (g : hs_S) (o : Int32 × hs_S) (hf : fX7_valueAt v0 v1 g = some o) : Met l yX7_valueAt wcX7_valueAt rmX7_valueAt (hs_Pc B D E g [.ref (B + v0), .int v1]) (hs_Qi B D E o) (0) (0) (hs_F B) := by
  refine Met.ofW (cc := cX7_valueAt) (maxL := 2) (ret := (some .int)) (by decide) rfl ?_
  intro p e s m args below meth c s₁ Bd hml hv
  obtain ⟨rfl, hP, hK⟩ := hv
  have hx := Bd.exec
  have hb := Bd.bytes
  have hr := Bd.returns
  have hts := atoms_spec (ws := wcX7_valueAt) Bd.pre
  have hown : s.vm.findClass RX7 = some m.cls := findClass_of_methodNamed Bd.named
  have hlocks := Bd.notSynchronized
  have hS : hs_Sx B s.heap s.heap [] := va_S.rf
  have hX : hs_cx cX7_valueAt (some .int) 2 RX7 wcX7_valueAt p s m (List.toArray [.ref (B + v0), .int v1]) meth c D E := ⟨hx, hb, hr, hml, hown, hts, hlocks, hK⟩
  have hl := lv_entry ([.ref (B + v0), .int v1]) (n := 2) (Nat.le_of_ble_eq_true rfl)
  rw [lg_entry_eq]
  generalize (lg_sl ([.ref (B + v0), .int v1]) ++ List.replicate (2 - (lg_sl ([.ref (B + v0), .int v1])).length) Slot.unset).toArray = ls at hl ⊢
  have hl : lv_has ls 2 [(0, .ref (B + v0)), (1, .int v1)] := hl
  have hP : hs_P B D E g s.heap := hP
  unfold fX7_valueAt at hf
  refine lv_aload_n hx hb dX7_valueAt_0 rfl (lv_at hl 0 rfl) ?_
  refine lv_iload_n hx hb dX7_valueAt_1 rfl (lv_at hl 1 rfl) ?_
  obtain ⟨h1, hf⟩ := hs_ck hf
  obtain ⟨r3, g2, h4, hf⟩ := hs_bd_some hf
  refine hs_calli (va_runV (As := [.int v1]) (rest := []) ⟨hx, hb, hml, hown, hts⟩ (ctX7_hasPlace l B D E v0 v1 g _ h4) (cwV 1 hts (hs_gV (fun _ h => List.mem_cons_of_mem _ h) wq252 wq253 wq254 wq43 wq255) rfl rfl rfl (by decide +kernel) ⟨Nat.le_of_ble_eq_true rfl, Nat.le_of_ble_eq_true rfl⟩) (hs_preV (r := (RX7, TX7, 11)) hP hK h1 (by decide) rfl) rfl rfl hl.1 rfl (lv_room (Nat.le_of_ble_eq_true rfl)) dX7_valueAt_2 ⟨(Nat.le_of_ble_eq_true rfl), (Nat.le_of_ble_eq_true rfl)⟩) hS (fun H locs hP hS => ?_)
  refine lv_if_eq (tgt := 26) hx hb dX7_valueAt_5 (by decide) (fun hc => ?_) (fun hc => ?_)
  · replace hf := hs_t hf hc
    refine lv_iconst (v := 0) hx hb dX7_valueAt_26 (by decide) ?_
    exact hs_iret hx hb hr hlocks rfl hK hP hS hf dX7_valueAt_27
  · replace hf := hs_f hf hc
    refine lv_aload_n hx hb dX7_valueAt_8 rfl (lv_at hl 0 rfl) ?_
    obtain ⟨h5, hf⟩ := hs_ck hf
    obtain ⟨h6, hf⟩ := hs_ck hf
    refine hs_getr (C := RX7) (T := TX7) (N := 11) hx hb hts (fun w h => List.mem_cons_of_mem _ (inlX7 w h)) hown hK.1 hP h5 (by decide) rfl 0 (by decide) (hts _ (List.mem_cons_of_mem _ wq52)) (fun _ h => h) rfl h6 dX7_valueAt_9 ?_
    refine lv_aload_n hx hb dX7_valueAt_12 rfl (lv_at hl 0 rfl) ?_
    refine hs_geti (C := RX7) (T := TX7) (N := 11) hx hb hts (fun w h => List.mem_cons_of_mem _ (inlX7 w h)) hown hK.1 hP h5 (by decide) rfl 2 (by decide) (hts _ (List.mem_cons_of_mem _ wq204)) (fun _ h => h) rfl dX7_valueAt_13 ?_
    refine lv_iload_n hx hb dX7_valueAt_16 rfl (lv_at hl 1 rfl) ?_
    refine lv_iadd hx hb dX7_valueAt_17 ?_
    obtain ⟨h7, hf⟩ := hs_ck hf
    obtain ⟨h8, hf⟩ := hs_ck hf
    refine hs_iald hx hb hK.1 hP h7 h8 dX7_valueAt_18 ?_
    refine lv_sipush (v := 255) hx hb dX7_valueAt_19 (by decide) ?_
    refine lv_iand hx hb dX7_valueAt_22 ?_
    refine lv_goto (tgt := 27) hx hb dX7_valueAt_23 (by decide) ?_
    exact hs_iret hx hb hr hlocks rfl hK hP hS hf dX7_valueAt_27

theorem dX4_isOfTwo_0 : decode cX4_isOfTwo 0 = .ok (.iload_n 0, 1) := by decide +kernel
theorem dX4_isOfTwo_1 : decode cX4_isOfTwo 1 = .ok (.lookupswitch 77 #[(96, 75), (100, 75), (104, 75), (108, 75), (112, 75), (126, 75), (128, 75), (130, 75)], 75) := by decide +kernel
theorem dX4_isOfTwo_76 : decode cX4_isOfTwo 76 = .ok (.iconst 1, 1) := by decide +kernel
theorem dX4_isOfTwo_77 : decode cX4_isOfTwo 77 = .ok (.ireturn, 1) := by decide +kernel
theorem dX4_isOfTwo_78 : decode cX4_isOfTwo 78 = .ok (.iconst 0, 1) := by decide +kernel
theorem dX4_isOfTwo_79 : decode cX4_isOfTwo 79 = .ok (.ireturn, 1) := by decide +kernel
abbrev wcX4_isOfTwo : List Cond := .code yX4_isOfTwo cX4_isOfTwo 1 (some .boolean) :: wsL_law
def fX4_isOfTwo (v0 : Int32) (g : hs_S) : Option (Int32 × hs_S) :=
  if v0 = (96 : Int32) then (
    some ((1 : Int32), g)
  ) else (
  if v0 = (100 : Int32) then (
    some ((1 : Int32), g)
  ) else (
  if v0 = (104 : Int32) then (
    some ((1 : Int32), g)
  ) else (
  if v0 = (108 : Int32) then (
    some ((1 : Int32), g)
  ) else (
  if v0 = (112 : Int32) then (
    some ((1 : Int32), g)
  ) else (
  if v0 = (126 : Int32) then (
    some ((1 : Int32), g)
  ) else (
  if v0 = (128 : Int32) then (
    some ((1 : Int32), g)
  ) else (
  if v0 = (130 : Int32) then (
    some ((1 : Int32), g)
  ) else (
    some ((0 : Int32), g)
  ))))))))
abbrev rmX4_isOfTwo : Room := { frames := 0, cells := 0, slots := 0, locals := 0 }
set_option maxHeartbeats 4000000 in
set_option maxRecDepth 100000 in
theorem ctX4_isOfTwo (l : Launch) (B : Nat) (D : va_G) (E : Nat → ClassId) (v0 : Int32) (g : hs_S) (o : Int32 × hs_S) (hf : fX4_isOfTwo v0 g = some o) : Met l yX4_isOfTwo wcX4_isOfTwo rmX4_isOfTwo (hs_Pc B D E g [.int v0]) (hs_Qi B D E o) (0) (0) (hs_F B) := by
  refine Met.ofW (cc := cX4_isOfTwo) (maxL := 1) (ret := (some .boolean)) (by decide) rfl ?_
  intro p e s m args below meth c s₁ Bd hml hv
  obtain ⟨rfl, hP, hK⟩ := hv
  have hx := Bd.exec
  have hb := Bd.bytes
  have hr := Bd.returns
  have hts := atoms_spec (ws := wcX4_isOfTwo) Bd.pre
  have hown : s.vm.findClass RX4 = some m.cls := findClass_of_methodNamed Bd.named
  have hlocks := Bd.notSynchronized
  have hS : hs_Sx B s.heap s.heap [] := va_S.rf
  have hX : hs_cx cX4_isOfTwo (some .boolean) 1 RX4 wcX4_isOfTwo p s m (List.toArray [.int v0]) meth c D E := ⟨hx, hb, hr, hml, hown, hts, hlocks, hK⟩
  have hl := lv_entry ([.int v0]) (n := 1) (Nat.le_of_ble_eq_true rfl)
  rw [lg_entry_eq]
  generalize (lg_sl ([.int v0]) ++ List.replicate (1 - (lg_sl ([.int v0])).length) Slot.unset).toArray = ls at hl ⊢
  have hl : lv_has ls 1 [(0, .int v0)] := hl
  have hP : hs_P B D E g s.heap := hP
  unfold fX4_isOfTwo at hf
  refine lv_iload_n hx hb dX4_isOfTwo_0 rfl (lv_at hl 0 rfl) ?_
  by_cases hc : v0 = (96 : Int32)
  · replace hf := hs_t hf hc
    refine lv_lookup (off := 75) (tgt := 76) hx hb dX4_isOfTwo_1 (by decide +kernel) (by rw [hc]; first | done | decide +kernel) (by decide) ?_
    refine lv_iconst (v := 1) hx hb dX4_isOfTwo_76 (by decide) ?_
    exact hs_iret hx hb hr hlocks (hs_01_nar (rfl)) hK hP hS hf dX4_isOfTwo_77
  have hn0 := hc
  replace hf := hs_f hf hc
  clear hc
  by_cases hc : v0 = (100 : Int32)
  · replace hf := hs_t hf hc
    refine lv_lookup (off := 75) (tgt := 76) hx hb dX4_isOfTwo_1 (by decide +kernel) (by rw [hc]; first | done | decide +kernel) (by decide) ?_
    refine lv_iconst (v := 1) hx hb dX4_isOfTwo_76 (by decide) ?_
    exact hs_iret hx hb hr hlocks (hs_01_nar (rfl)) hK hP hS hf dX4_isOfTwo_77
  have hn1 := hc
  replace hf := hs_f hf hc
  clear hc
  by_cases hc : v0 = (104 : Int32)
  · replace hf := hs_t hf hc
    refine lv_lookup (off := 75) (tgt := 76) hx hb dX4_isOfTwo_1 (by decide +kernel) (by rw [hc]; first | done | decide +kernel) (by decide) ?_
    refine lv_iconst (v := 1) hx hb dX4_isOfTwo_76 (by decide) ?_
    exact hs_iret hx hb hr hlocks (hs_01_nar (rfl)) hK hP hS hf dX4_isOfTwo_77
  have hn2 := hc
  replace hf := hs_f hf hc
  clear hc
  by_cases hc : v0 = (108 : Int32)
  · replace hf := hs_t hf hc
    refine lv_lookup (off := 75) (tgt := 76) hx hb dX4_isOfTwo_1 (by decide +kernel) (by rw [hc]; first | done | decide +kernel) (by decide) ?_
    refine lv_iconst (v := 1) hx hb dX4_isOfTwo_76 (by decide) ?_
    exact hs_iret hx hb hr hlocks (hs_01_nar (rfl)) hK hP hS hf dX4_isOfTwo_77
  have hn3 := hc
  replace hf := hs_f hf hc
  clear hc
  by_cases hc : v0 = (112 : Int32)
  · replace hf := hs_t hf hc
    refine lv_lookup (off := 75) (tgt := 76) hx hb dX4_isOfTwo_1 (by decide +kernel) (by rw [hc]; first | done | decide +kernel) (by decide) ?_
    refine lv_iconst (v := 1) hx hb dX4_isOfTwo_76 (by decide) ?_
    exact hs_iret hx hb hr hlocks (hs_01_nar (rfl)) hK hP hS hf dX4_isOfTwo_77
  have hn4 := hc
  replace hf := hs_f hf hc
  clear hc
  by_cases hc : v0 = (126 : Int32)
  · replace hf := hs_t hf hc
    refine lv_lookup (off := 75) (tgt := 76) hx hb dX4_isOfTwo_1 (by decide +kernel) (by rw [hc]; first | done | decide +kernel) (by decide) ?_
    refine lv_iconst (v := 1) hx hb dX4_isOfTwo_76 (by decide) ?_
    exact hs_iret hx hb hr hlocks (hs_01_nar (rfl)) hK hP hS hf dX4_isOfTwo_77
  have hn5 := hc
  replace hf := hs_f hf hc
  clear hc
  by_cases hc : v0 = (128 : Int32)
  · replace hf := hs_t hf hc
    refine lv_lookup (off := 75) (tgt := 76) hx hb dX4_isOfTwo_1 (by decide +kernel) (by rw [hc]; first | done | decide +kernel) (by decide) ?_
    refine lv_iconst (v := 1) hx hb dX4_isOfTwo_76 (by decide) ?_
    exact hs_iret hx hb hr hlocks (hs_01_nar (rfl)) hK hP hS hf dX4_isOfTwo_77
  have hn6 := hc
  replace hf := hs_f hf hc
  clear hc
  by_cases hc : v0 = (130 : Int32)
  · replace hf := hs_t hf hc
    refine lv_lookup (off := 75) (tgt := 76) hx hb dX4_isOfTwo_1 (by decide +kernel) (by rw [hc]; first | done | decide +kernel) (by decide) ?_
    refine lv_iconst (v := 1) hx hb dX4_isOfTwo_76 (by decide) ?_
    exact hs_iret hx hb hr hlocks (hs_01_nar (rfl)) hK hP hS hf dX4_isOfTwo_77
  have hn7 := hc
  replace hf := hs_f hf hc
  clear hc
  refine lv_lookup (off := 77) (tgt := 78) hx hb dX4_isOfTwo_1 (by decide +kernel) (by simp only [Array.toList]; rw [lv_osw (a := 96) hn0 rfl, lv_osw (a := 100) hn1 rfl, lv_osw (a := 104) hn2 rfl, lv_osw (a := 108) hn3 rfl, lv_osw (a := 112) hn4 rfl, lv_osw (a := 126) hn5 rfl, lv_osw (a := 128) hn6 rfl, lv_osw (a := 130) hn7 rfl]; first | done | rfl) (by decide) ?_
  refine lv_iconst (v := 0) hx hb dX4_isOfTwo_78 (by decide) ?_
  exact hs_iret hx hb hr hlocks (hs_01_nar (rfl)) hK hP hS hf dX4_isOfTwo_79

theorem dX4_isBranch_0 : decode cX4_isBranch 0 = .ok (.iload_n 0, 1) := by decide +kernel
theorem dX4_isBranch_1 : decode cX4_isBranch 1 = .ok (.sipush 153, 3) := by decide +kernel
theorem dX4_isBranch_4 : decode cX4_isBranch 4 = .ok (.if_icmp .lt 14, 3) := by decide +kernel
theorem dX4_isBranch_7 : decode cX4_isBranch 7 = .ok (.iload_n 0, 1) := by decide +kernel
theorem dX4_isBranch_8 : decode cX4_isBranch 8 = .ok (.sipush 158, 3) := by decide +kernel
theorem dX4_isBranch_11 : decode cX4_isBranch 11 = .ok (.if_icmp .gt 7, 3) := by decide +kernel
theorem dX4_isBranch_14 : decode cX4_isBranch 14 = .ok (.iconst 1, 1) := by decide +kernel
theorem dX4_isBranch_15 : decode cX4_isBranch 15 = .ok (.goto 4, 3) := by decide +kernel
theorem dX4_isBranch_18 : decode cX4_isBranch 18 = .ok (.iconst 0, 1) := by decide +kernel
theorem dX4_isBranch_19 : decode cX4_isBranch 19 = .ok (.ireturn, 1) := by decide +kernel
abbrev wcX4_isBranch : List Cond := .code yX4_isBranch cX4_isBranch 1 (some .boolean) :: wsL_law
def fX4_isBranch (v0 : Int32) (g : hs_S) : Option (Int32 × hs_S) :=
  if v0 < (153 : Int32) then (
    some ((0 : Int32), g)
  ) else (
    if (158 : Int32) < v0 then (
      some ((0 : Int32), g)
    ) else (
      some ((1 : Int32), g)
    )
  )
abbrev rmX4_isBranch : Room := { frames := 0, cells := 0, slots := 0, locals := 0 }
set_option maxHeartbeats 4000000 in
set_option maxRecDepth 100000 in
theorem ctX4_isBranch (l : Launch) (B : Nat) (D : va_G) (E : Nat → ClassId) (v0 : Int32) (g : hs_S) (o : Int32 × hs_S) (hf : fX4_isBranch v0 g = some o) : Met l yX4_isBranch wcX4_isBranch rmX4_isBranch (hs_Pc B D E g [.int v0]) (hs_Qi B D E o) (0) (0) (hs_F B) := by
  refine Met.ofW (cc := cX4_isBranch) (maxL := 1) (ret := (some .boolean)) (by decide) rfl ?_
  intro p e s m args below meth c s₁ Bd hml hv
  obtain ⟨rfl, hP, hK⟩ := hv
  have hx := Bd.exec
  have hb := Bd.bytes
  have hr := Bd.returns
  have hts := atoms_spec (ws := wcX4_isBranch) Bd.pre
  have hown : s.vm.findClass RX4 = some m.cls := findClass_of_methodNamed Bd.named
  have hlocks := Bd.notSynchronized
  have hS : hs_Sx B s.heap s.heap [] := va_S.rf
  have hX : hs_cx cX4_isBranch (some .boolean) 1 RX4 wcX4_isBranch p s m (List.toArray [.int v0]) meth c D E := ⟨hx, hb, hr, hml, hown, hts, hlocks, hK⟩
  have hl := lv_entry ([.int v0]) (n := 1) (Nat.le_of_ble_eq_true rfl)
  rw [lg_entry_eq]
  generalize (lg_sl ([.int v0]) ++ List.replicate (1 - (lg_sl ([.int v0])).length) Slot.unset).toArray = ls at hl ⊢
  have hl : lv_has ls 1 [(0, .int v0)] := hl
  have hP : hs_P B D E g s.heap := hP
  unfold fX4_isBranch at hf
  refine lv_iload_n hx hb dX4_isBranch_0 rfl (lv_at hl 0 rfl) ?_
  refine lv_sipush (v := 153) hx hb dX4_isBranch_1 (by decide) ?_
  refine lv_icmp_lt (tgt := 18) hx hb dX4_isBranch_4 (by decide) (fun hc => ?_) (fun hc => ?_)
  · replace hf := hs_t hf hc
    refine lv_iconst (v := 0) hx hb dX4_isBranch_18 (by decide) ?_
    exact hs_iret hx hb hr hlocks (hs_01_nar (rfl)) hK hP hS hf dX4_isBranch_19
  · replace hf := hs_f hf hc
    refine lv_iload_n hx hb dX4_isBranch_7 rfl (lv_at hl 0 rfl) ?_
    refine lv_sipush (v := 158) hx hb dX4_isBranch_8 (by decide) ?_
    refine lv_icmp_gt (tgt := 18) hx hb dX4_isBranch_11 (by decide) (fun hc => ?_) (fun hc => ?_)
    · replace hf := hs_t hf hc
      refine lv_iconst (v := 0) hx hb dX4_isBranch_18 (by decide) ?_
      exact hs_iret hx hb hr hlocks (hs_01_nar (rfl)) hK hP hS hf dX4_isBranch_19
    · replace hf := hs_f hf hc
      refine lv_iconst (v := 1) hx hb dX4_isBranch_14 (by decide) ?_
      refine lv_goto (tgt := 19) hx hb dX4_isBranch_15 (by decide) ?_
      exact hs_iret hx hb hr hlocks (hs_01_nar (rfl)) hK hP hS hf dX4_isBranch_19

theorem dX4_isOfArray_0 : decode cX4_isOfArray 0 = .ok (.iload_n 0, 1) := by decide +kernel
theorem dX4_isOfArray_1 : decode cX4_isOfArray 1 = .ok (.sipush 188, 3) := by decide +kernel
theorem dX4_isOfArray_4 : decode cX4_isOfArray 4 = .ok (.if_icmp .eq 22, 3) := by decide +kernel
theorem dX4_isOfArray_7 : decode cX4_isOfArray 7 = .ok (.iload_n 0, 1) := by decide +kernel
theorem dX4_isOfArray_8 : decode cX4_isOfArray 8 = .ok (.sipush 190, 3) := by decide +kernel
theorem dX4_isOfArray_11 : decode cX4_isOfArray 11 = .ok (.if_icmp .eq 15, 3) := by decide +kernel
theorem dX4_isOfArray_14 : decode cX4_isOfArray 14 = .ok (.iload_n 0, 1) := by decide +kernel
theorem dX4_isOfArray_15 : decode cX4_isOfArray 15 = .ok (.bipush 46, 2) := by decide +kernel
theorem dX4_isOfArray_17 : decode cX4_isOfArray 17 = .ok (.if_icmp .eq 9, 3) := by decide +kernel
theorem dX4_isOfArray_20 : decode cX4_isOfArray 20 = .ok (.iload_n 0, 1) := by decide +kernel
theorem dX4_isOfArray_21 : decode cX4_isOfArray 21 = .ok (.bipush 79, 2) := by decide +kernel
theorem dX4_isOfArray_23 : decode cX4_isOfArray 23 = .ok (.if_icmp .ne 7, 3) := by decide +kernel
theorem dX4_isOfArray_26 : decode cX4_isOfArray 26 = .ok (.iconst 1, 1) := by decide +kernel
theorem dX4_isOfArray_27 : decode cX4_isOfArray 27 = .ok (.goto 4, 3) := by decide +kernel
theorem dX4_isOfArray_30 : decode cX4_isOfArray 30 = .ok (.iconst 0, 1) := by decide +kernel
theorem dX4_isOfArray_31 : decode cX4_isOfArray 31 = .ok (.ireturn, 1) := by decide +kernel
abbrev wcX4_isOfArray : List Cond := .code yX4_isOfArray cX4_isOfArray 1 (some .boolean) :: wsL_law
def jX4_isOfArray_26  (g : hs_S) : Option (Int32 × hs_S) :=
  some ((1 : Int32), g)
def fX4_isOfArray (v0 : Int32) (g : hs_S) : Option (Int32 × hs_S) :=
  if v0 = (188 : Int32) then (
    jX4_isOfArray_26 g
  ) else (
    if v0 = (190 : Int32) then (
      jX4_isOfArray_26 g
    ) else (
      if v0 = (46 : Int32) then (
        jX4_isOfArray_26 g
      ) else (
        if v0 = (79 : Int32) then (
          jX4_isOfArray_26 g
        ) else (
          some ((0 : Int32), g)
        )
      )
    )
  )
abbrev rmX4_isOfArray : Room := { frames := 0, cells := 0, slots := 0, locals := 0 }
set_option maxHeartbeats 4000000 in
set_option maxRecDepth 100000 in
theorem wX4_isOfArray_j26 {p : Program} {l : Launch} {e : Env} {s : State} {m : MethodId} {args : Array Value} {below : List Frame} {meth : Method} {c : Code} {B : Nat} {D : va_G} {E : Nat → ClassId} (hX : hs_cx cX4_isOfArray (some .boolean) 1 RX4 wcX4_isOfArray p s m args meth c D E) {o : Int32 × hs_S}     {g : hs_S} {H : Heap} {locs : List Loc} {ls : Array Slot} (hf : jX4_isOfArray_26  g = some o) (hP : hs_P B D E g H) (hS : hs_Sx B s.heap H locs) (hl : lv_has ls 1 []) : W p l e rmX4_isOfArray s m args below meth c H locs 0 0 (MQ below (hs_Qi B D E o) args s 0 0 (hs_F B)) (F0 m 26 ls []) := by
  obtain ⟨hx, hb, hr, hml, hown, hts, hlocks, hK⟩ := id hX
  unfold jX4_isOfArray_26 at hf
  refine lv_iconst (v := 1) hx hb dX4_isOfArray_26 (by decide) ?_
  refine lv_goto (tgt := 31) hx hb dX4_isOfArray_27 (by decide) ?_
  exact hs_iret hx hb hr hlocks (hs_01_nar (rfl)) hK hP hS hf dX4_isOfArray_31

set_option maxHeartbeats 4000000 in
set_option maxRecDepth 100000 in
theorem ctX4_isOfArray (l : Launch) (B : Nat) (D : va_G) (E : Nat → ClassId) (v0 : Int32) (g : hs_S) (o : Int32 × hs_S) (hf : fX4_isOfArray v0 g = some o) : Met l yX4_isOfArray wcX4_isOfArray rmX4_isOfArray (hs_Pc B D E g [.int v0]) (hs_Qi B D E o) (0) (0) (hs_F B) := by
  refine Met.ofW (cc := cX4_isOfArray) (maxL := 1) (ret := (some .boolean)) (by decide) rfl ?_
  intro p e s m args below meth c s₁ Bd hml hv
  obtain ⟨rfl, hP, hK⟩ := hv
  have hx := Bd.exec
  have hb := Bd.bytes
  have hr := Bd.returns
  have hts := atoms_spec (ws := wcX4_isOfArray) Bd.pre
  have hown : s.vm.findClass RX4 = some m.cls := findClass_of_methodNamed Bd.named
  have hlocks := Bd.notSynchronized
  have hS : hs_Sx B s.heap s.heap [] := va_S.rf
  have hX : hs_cx cX4_isOfArray (some .boolean) 1 RX4 wcX4_isOfArray p s m (List.toArray [.int v0]) meth c D E := ⟨hx, hb, hr, hml, hown, hts, hlocks, hK⟩
  have hl := lv_entry ([.int v0]) (n := 1) (Nat.le_of_ble_eq_true rfl)
  rw [lg_entry_eq]
  generalize (lg_sl ([.int v0]) ++ List.replicate (1 - (lg_sl ([.int v0])).length) Slot.unset).toArray = ls at hl ⊢
  have hl : lv_has ls 1 [(0, .int v0)] := hl
  have hP : hs_P B D E g s.heap := hP
  unfold fX4_isOfArray at hf
  refine lv_iload_n hx hb dX4_isOfArray_0 rfl (lv_at hl 0 rfl) ?_
  refine lv_sipush (v := 188) hx hb dX4_isOfArray_1 (by decide) ?_
  refine lv_icmp_eq (tgt := 26) hx hb dX4_isOfArray_4 (by decide) (fun hc => ?_) (fun hc => ?_)
  · replace hf := hs_t hf hc
    exact wX4_isOfArray_j26 hX hf hP hS (lv_sub hl [] rfl)
  · replace hf := hs_f hf hc
    refine lv_iload_n hx hb dX4_isOfArray_7 rfl (lv_at hl 0 rfl) ?_
    refine lv_sipush (v := 190) hx hb dX4_isOfArray_8 (by decide) ?_
    refine lv_icmp_eq (tgt := 26) hx hb dX4_isOfArray_11 (by decide) (fun hc => ?_) (fun hc => ?_)
    · replace hf := hs_t hf hc
      exact wX4_isOfArray_j26 hX hf hP hS (lv_sub hl [] rfl)
    · replace hf := hs_f hf hc
      refine lv_iload_n hx hb dX4_isOfArray_14 rfl (lv_at hl 0 rfl) ?_
      refine lv_bipush (v := 46) hx hb dX4_isOfArray_15 (by decide) ?_
      refine lv_icmp_eq (tgt := 26) hx hb dX4_isOfArray_17 (by decide) (fun hc => ?_) (fun hc => ?_)
      · replace hf := hs_t hf hc
        exact wX4_isOfArray_j26 hX hf hP hS (lv_sub hl [] rfl)
      · replace hf := hs_f hf hc
        refine lv_iload_n hx hb dX4_isOfArray_20 rfl (lv_at hl 0 rfl) ?_
        refine lv_bipush (v := 79) hx hb dX4_isOfArray_21 (by decide) ?_
        refine lv_icmp_ne (tgt := 30) hx hb dX4_isOfArray_23 (by decide) (fun hc => ?_) (fun hc => ?_)
        · replace hf := hs_f hf hc
          refine lv_iconst (v := 0) hx hb dX4_isOfArray_30 (by decide) ?_
          exact hs_iret hx hb hr hlocks (hs_01_nar (rfl)) hK hP hS hf dX4_isOfArray_31
        · replace hf := hs_t hf hc
          exact wX4_isOfArray_j26 hX hf hP hS (lv_sub hl [] rfl)

theorem dX4_sizeOf_0 : decode cX4_sizeOf 0 = .ok (.iload_n 0, 1) := by decide +kernel
theorem dX4_sizeOf_1 : decode cX4_sizeOf 1 = .ok (.lookupswitch 121 #[(0, 115), (16, 117), (17, 119), (21, 117), (54, 117), (87, 115), (89, 115), (116, 115), (167, 117), (168, 119), (172, 115), (184, 117), (191, 115)], 115) := by decide +kernel
theorem dX4_sizeOf_116 : decode cX4_sizeOf 116 = .ok (.iconst 1, 1) := by decide +kernel
theorem dX4_sizeOf_117 : decode cX4_sizeOf 117 = .ok (.ireturn, 1) := by decide +kernel
theorem dX4_sizeOf_118 : decode cX4_sizeOf 118 = .ok (.iconst 2, 1) := by decide +kernel
theorem dX4_sizeOf_119 : decode cX4_sizeOf 119 = .ok (.ireturn, 1) := by decide +kernel
theorem dX4_sizeOf_120 : decode cX4_sizeOf 120 = .ok (.iconst 3, 1) := by decide +kernel
theorem dX4_sizeOf_121 : decode cX4_sizeOf 121 = .ok (.ireturn, 1) := by decide +kernel
theorem dX4_sizeOf_122 : decode cX4_sizeOf 122 = .ok (.iload_n 0, 1) := by decide +kernel
theorem dX4_sizeOf_123 : decode cX4_sizeOf 123 = .ok (.invokestatic 7, 3) := by decide +kernel
theorem dX4_sizeOf_126 : decode cX4_sizeOf 126 = .ok (.ifCond .eq 7, 3) := by decide +kernel
theorem dX4_sizeOf_129 : decode cX4_sizeOf 129 = .ok (.iconst 1, 1) := by decide +kernel
theorem dX4_sizeOf_130 : decode cX4_sizeOf 130 = .ok (.goto 22, 3) := by decide +kernel
theorem dX4_sizeOf_133 : decode cX4_sizeOf 133 = .ok (.iload_n 0, 1) := by decide +kernel
theorem dX4_sizeOf_134 : decode cX4_sizeOf 134 = .ok (.invokestatic 13, 3) := by decide +kernel
theorem dX4_sizeOf_137 : decode cX4_sizeOf 137 = .ok (.ifCond .ne 10, 3) := by decide +kernel
theorem dX4_sizeOf_140 : decode cX4_sizeOf 140 = .ok (.iload_n 0, 1) := by decide +kernel
theorem dX4_sizeOf_141 : decode cX4_sizeOf 141 = .ok (.invokestatic 16, 3) := by decide +kernel
theorem dX4_sizeOf_144 : decode cX4_sizeOf 144 = .ok (.ifCond .eq 7, 3) := by decide +kernel
theorem dX4_sizeOf_147 : decode cX4_sizeOf 147 = .ok (.iconst 2, 1) := by decide +kernel
theorem dX4_sizeOf_148 : decode cX4_sizeOf 148 = .ok (.goto 4, 3) := by decide +kernel
theorem dX4_sizeOf_151 : decode cX4_sizeOf 151 = .ok (.iconst 0, 1) := by decide +kernel
theorem dX4_sizeOf_152 : decode cX4_sizeOf 152 = .ok (.ireturn, 1) := by decide +kernel
abbrev wcX4_sizeOf : List Cond := .code yX4_sizeOf cX4_sizeOf 1 (some .int) :: wsL_law
def jX4_sizeOf_147  (g : hs_S) : Option (Int32 × hs_S) :=
  some ((2 : Int32), g)
def fX4_sizeOf (v0 : Int32) (g : hs_S) : Option (Int32 × hs_S) :=
  if v0 = (0 : Int32) then (
    some ((1 : Int32), g)
  ) else (
  if v0 = (16 : Int32) then (
    some ((2 : Int32), g)
  ) else (
  if v0 = (17 : Int32) then (
    some ((3 : Int32), g)
  ) else (
  if v0 = (21 : Int32) then (
    some ((2 : Int32), g)
  ) else (
  if v0 = (54 : Int32) then (
    some ((2 : Int32), g)
  ) else (
  if v0 = (87 : Int32) then (
    some ((1 : Int32), g)
  ) else (
  if v0 = (89 : Int32) then (
    some ((1 : Int32), g)
  ) else (
  if v0 = (116 : Int32) then (
    some ((1 : Int32), g)
  ) else (
  if v0 = (167 : Int32) then (
    some ((2 : Int32), g)
  ) else (
  if v0 = (168 : Int32) then (
    some ((3 : Int32), g)
  ) else (
  if v0 = (172 : Int32) then (
    some ((1 : Int32), g)
  ) else (
  if v0 = (184 : Int32) then (
    some ((2 : Int32), g)
  ) else (
  if v0 = (191 : Int32) then (
    some ((1 : Int32), g)
  ) else (
    hs_bd (fX4_isOfTwo v0 g) fun r2 g1 =>
    if r2 = 0 then (
      hs_bd (fX4_isBranch v0 g1) fun r5 g4 =>
      if r5 = 0 then (
        hs_bd (fX4_isOfArray v0 g4) fun r8 g7 =>
        if r8 = 0 then (
          some ((0 : Int32), g7)
        ) else (
          jX4_sizeOf_147 g7
        )
      ) else (
        jX4_sizeOf_147 g4
      )
    ) else (
      some ((1 : Int32), g1)
    )
  )))))))))))))
abbrev rmX4_sizeOf : Room := { frames := 1, cells := 0, slots := 0, locals := 20 }
set_option maxHeartbeats 4000000 in
set_option maxRecDepth 100000 in
theorem wX4_sizeOf_j147 {p : Program} {l : Launch} {e : Env} {s : State} {m : MethodId} {args : Array Value} {below : List Frame} {meth : Method} {c : Code} {B : Nat} {D : va_G} {E : Nat → ClassId} (hX : hs_cx cX4_sizeOf (some .int) 1 RX4 wcX4_sizeOf p s m args meth c D E) {o : Int32 × hs_S}     {g : hs_S} {H : Heap} {locs : List Loc} {ls : Array Slot} (hf : jX4_sizeOf_147  g = some o) (hP : hs_P B D E g H) (hS : hs_Sx B s.heap H locs) (hl : lv_has ls 1 []) : W p l e rmX4_sizeOf s m args below meth c H locs 0 0 (MQ below (hs_Qi B D E o) args s 0 0 (hs_F B)) (F0 m 147 ls []) := by
  obtain ⟨hx, hb, hr, hml, hown, hts, hlocks, hK⟩ := id hX
  unfold jX4_sizeOf_147 at hf
  refine lv_iconst (v := 2) hx hb dX4_sizeOf_147 (by decide) ?_
  refine lv_goto (tgt := 152) hx hb dX4_sizeOf_148 (by decide) ?_
  exact hs_iret hx hb hr hlocks rfl hK hP hS hf dX4_sizeOf_152

set_option maxHeartbeats 4000000 in
set_option maxRecDepth 100000 in
theorem ctX4_sizeOf (l : Launch) (B : Nat) (D : va_G) (E : Nat → ClassId) (v0 : Int32) (g : hs_S) (o : Int32 × hs_S) (hf : fX4_sizeOf v0 g = some o) : Met l yX4_sizeOf wcX4_sizeOf rmX4_sizeOf (hs_Pc B D E g [.int v0]) (hs_Qi B D E o) (0) (0) (hs_F B) := by
  refine Met.ofW (cc := cX4_sizeOf) (maxL := 1) (ret := (some .int)) (by decide) rfl ?_
  intro p e s m args below meth c s₁ Bd hml hv
  obtain ⟨rfl, hP, hK⟩ := hv
  have hx := Bd.exec
  have hb := Bd.bytes
  have hr := Bd.returns
  have hts := atoms_spec (ws := wcX4_sizeOf) Bd.pre
  have hown : s.vm.findClass RX4 = some m.cls := findClass_of_methodNamed Bd.named
  have hlocks := Bd.notSynchronized
  have hS : hs_Sx B s.heap s.heap [] := va_S.rf
  have hX : hs_cx cX4_sizeOf (some .int) 1 RX4 wcX4_sizeOf p s m (List.toArray [.int v0]) meth c D E := ⟨hx, hb, hr, hml, hown, hts, hlocks, hK⟩
  have hl := lv_entry ([.int v0]) (n := 1) (Nat.le_of_ble_eq_true rfl)
  rw [lg_entry_eq]
  generalize (lg_sl ([.int v0]) ++ List.replicate (1 - (lg_sl ([.int v0])).length) Slot.unset).toArray = ls at hl ⊢
  have hl : lv_has ls 1 [(0, .int v0)] := hl
  have hP : hs_P B D E g s.heap := hP
  unfold fX4_sizeOf at hf
  refine lv_iload_n hx hb dX4_sizeOf_0 rfl (lv_at hl 0 rfl) ?_
  by_cases hc : v0 = (0 : Int32)
  · replace hf := hs_t hf hc
    refine lv_lookup (off := 115) (tgt := 116) hx hb dX4_sizeOf_1 (by decide +kernel) (by rw [hc]; first | done | decide +kernel) (by decide) ?_
    refine lv_iconst (v := 1) hx hb dX4_sizeOf_116 (by decide) ?_
    exact hs_iret hx hb hr hlocks rfl hK hP hS hf dX4_sizeOf_117
  have hn0 := hc
  replace hf := hs_f hf hc
  clear hc
  by_cases hc : v0 = (16 : Int32)
  · replace hf := hs_t hf hc
    refine lv_lookup (off := 117) (tgt := 118) hx hb dX4_sizeOf_1 (by decide +kernel) (by rw [hc]; first | done | decide +kernel) (by decide) ?_
    refine lv_iconst (v := 2) hx hb dX4_sizeOf_118 (by decide) ?_
    exact hs_iret hx hb hr hlocks rfl hK hP hS hf dX4_sizeOf_119
  have hn1 := hc
  replace hf := hs_f hf hc
  clear hc
  by_cases hc : v0 = (17 : Int32)
  · replace hf := hs_t hf hc
    refine lv_lookup (off := 119) (tgt := 120) hx hb dX4_sizeOf_1 (by decide +kernel) (by rw [hc]; first | done | decide +kernel) (by decide) ?_
    refine lv_iconst (v := 3) hx hb dX4_sizeOf_120 (by decide) ?_
    exact hs_iret hx hb hr hlocks rfl hK hP hS hf dX4_sizeOf_121
  have hn2 := hc
  replace hf := hs_f hf hc
  clear hc
  by_cases hc : v0 = (21 : Int32)
  · replace hf := hs_t hf hc
    refine lv_lookup (off := 117) (tgt := 118) hx hb dX4_sizeOf_1 (by decide +kernel) (by rw [hc]; first | done | decide +kernel) (by decide) ?_
    refine lv_iconst (v := 2) hx hb dX4_sizeOf_118 (by decide) ?_
    exact hs_iret hx hb hr hlocks rfl hK hP hS hf dX4_sizeOf_119
  have hn3 := hc
  replace hf := hs_f hf hc
  clear hc
  by_cases hc : v0 = (54 : Int32)
  · replace hf := hs_t hf hc
    refine lv_lookup (off := 117) (tgt := 118) hx hb dX4_sizeOf_1 (by decide +kernel) (by rw [hc]; first | done | decide +kernel) (by decide) ?_
    refine lv_iconst (v := 2) hx hb dX4_sizeOf_118 (by decide) ?_
    exact hs_iret hx hb hr hlocks rfl hK hP hS hf dX4_sizeOf_119
  have hn4 := hc
  replace hf := hs_f hf hc
  clear hc
  by_cases hc : v0 = (87 : Int32)
  · replace hf := hs_t hf hc
    refine lv_lookup (off := 115) (tgt := 116) hx hb dX4_sizeOf_1 (by decide +kernel) (by rw [hc]; first | done | decide +kernel) (by decide) ?_
    refine lv_iconst (v := 1) hx hb dX4_sizeOf_116 (by decide) ?_
    exact hs_iret hx hb hr hlocks rfl hK hP hS hf dX4_sizeOf_117
  have hn5 := hc
  replace hf := hs_f hf hc
  clear hc
  by_cases hc : v0 = (89 : Int32)
  · replace hf := hs_t hf hc
    refine lv_lookup (off := 115) (tgt := 116) hx hb dX4_sizeOf_1 (by decide +kernel) (by rw [hc]; first | done | decide +kernel) (by decide) ?_
    refine lv_iconst (v := 1) hx hb dX4_sizeOf_116 (by decide) ?_
    exact hs_iret hx hb hr hlocks rfl hK hP hS hf dX4_sizeOf_117
  have hn6 := hc
  replace hf := hs_f hf hc
  clear hc
  by_cases hc : v0 = (116 : Int32)
  · replace hf := hs_t hf hc
    refine lv_lookup (off := 115) (tgt := 116) hx hb dX4_sizeOf_1 (by decide +kernel) (by rw [hc]; first | done | decide +kernel) (by decide) ?_
    refine lv_iconst (v := 1) hx hb dX4_sizeOf_116 (by decide) ?_
    exact hs_iret hx hb hr hlocks rfl hK hP hS hf dX4_sizeOf_117
  have hn7 := hc
  replace hf := hs_f hf hc
  clear hc
  by_cases hc : v0 = (167 : Int32)
  · replace hf := hs_t hf hc
    refine lv_lookup (off := 117) (tgt := 118) hx hb dX4_sizeOf_1 (by decide +kernel) (by rw [hc]; first | done | decide +kernel) (by decide) ?_
    refine lv_iconst (v := 2) hx hb dX4_sizeOf_118 (by decide) ?_
    exact hs_iret hx hb hr hlocks rfl hK hP hS hf dX4_sizeOf_119
  have hn8 := hc
  replace hf := hs_f hf hc
  clear hc
  by_cases hc : v0 = (168 : Int32)
  · replace hf := hs_t hf hc
    refine lv_lookup (off := 119) (tgt := 120) hx hb dX4_sizeOf_1 (by decide +kernel) (by rw [hc]; first | done | decide +kernel) (by decide) ?_
    refine lv_iconst (v := 3) hx hb dX4_sizeOf_120 (by decide) ?_
    exact hs_iret hx hb hr hlocks rfl hK hP hS hf dX4_sizeOf_121
  have hn9 := hc
  replace hf := hs_f hf hc
  clear hc
  by_cases hc : v0 = (172 : Int32)
  · replace hf := hs_t hf hc
    refine lv_lookup (off := 115) (tgt := 116) hx hb dX4_sizeOf_1 (by decide +kernel) (by rw [hc]; first | done | decide +kernel) (by decide) ?_
    refine lv_iconst (v := 1) hx hb dX4_sizeOf_116 (by decide) ?_
    exact hs_iret hx hb hr hlocks rfl hK hP hS hf dX4_sizeOf_117
  have hn10 := hc
  replace hf := hs_f hf hc
  clear hc
  by_cases hc : v0 = (184 : Int32)
  · replace hf := hs_t hf hc
    refine lv_lookup (off := 117) (tgt := 118) hx hb dX4_sizeOf_1 (by decide +kernel) (by rw [hc]; first | done | decide +kernel) (by decide) ?_
    refine lv_iconst (v := 2) hx hb dX4_sizeOf_118 (by decide) ?_
    exact hs_iret hx hb hr hlocks rfl hK hP hS hf dX4_sizeOf_119
  have hn11 := hc
  replace hf := hs_f hf hc
  clear hc
  by_cases hc : v0 = (191 : Int32)
  · replace hf := hs_t hf hc
    refine lv_lookup (off := 115) (tgt := 116) hx hb dX4_sizeOf_1 (by decide +kernel) (by rw [hc]; first | done | decide +kernel) (by decide) ?_
    refine lv_iconst (v := 1) hx hb dX4_sizeOf_116 (by decide) ?_
    exact hs_iret hx hb hr hlocks rfl hK hP hS hf dX4_sizeOf_117
  have hn12 := hc
  replace hf := hs_f hf hc
  clear hc
  refine lv_lookup (off := 121) (tgt := 122) hx hb dX4_sizeOf_1 (by decide +kernel) (by simp only [Array.toList]; rw [lv_osw (a := 0) hn0 rfl, lv_osw (a := 16) hn1 rfl, lv_osw (a := 17) hn2 rfl, lv_osw (a := 21) hn3 rfl, lv_osw (a := 54) hn4 rfl, lv_osw (a := 87) hn5 rfl, lv_osw (a := 89) hn6 rfl, lv_osw (a := 116) hn7 rfl, lv_osw (a := 167) hn8 rfl, lv_osw (a := 168) hn9 rfl, lv_osw (a := 172) hn10 rfl, lv_osw (a := 184) hn11 rfl, lv_osw (a := 191) hn12 rfl]; first | done | rfl) (by decide) ?_
  refine lv_iload_n hx hb dX4_sizeOf_122 rfl (lv_at hl 0 rfl) ?_
  obtain ⟨r2, g1, h3, hf⟩ := hs_bd_some hf
  refine hs_calli (va_runS (As := [.int v0]) (rest := []) ⟨hx, hb, hml, hown, hts⟩ (ctX4_isOfTwo l B D E v0 g _ h3) (va_cwS 1 hts (hs_gS (fun _ h => List.mem_cons_of_mem _ h) wq260 wq261 wq258 wq262) rfl rfl rfl (by decide +kernel) ⟨Nat.le_of_ble_eq_true rfl, Nat.le_of_ble_eq_true rfl⟩) (hs_pre hP hK) rfl rfl hl.1 rfl (lv_room (Nat.le_of_ble_eq_true rfl)) dX4_sizeOf_123 ⟨(Nat.le_of_ble_eq_true rfl), (Nat.le_of_ble_eq_true rfl)⟩) hS (fun H locs hP hS => ?_)
  refine lv_if_eq (tgt := 133) hx hb dX4_sizeOf_126 (by decide) (fun hc => ?_) (fun hc => ?_)
  · replace hf := hs_t hf hc
    refine lv_iload_n hx hb dX4_sizeOf_133 rfl (lv_at hl 0 rfl) ?_
    obtain ⟨r5, g4, h6, hf⟩ := hs_bd_some hf
    refine hs_calli (va_runS (As := [.int v0]) (rest := []) ⟨hx, hb, hml, hown, hts⟩ (ctX4_isBranch l B D E v0 g1 _ h6) (va_cwS 1 hts (hs_gS (fun _ h => List.mem_cons_of_mem _ h) wq263 wq264 wq258 wq265) rfl rfl rfl (by decide +kernel) ⟨Nat.le_of_ble_eq_true rfl, Nat.le_of_ble_eq_true rfl⟩) (hs_pre hP hK) rfl rfl hl.1 rfl (lv_room (Nat.le_of_ble_eq_true rfl)) dX4_sizeOf_134 ⟨(Nat.le_of_ble_eq_true rfl), (Nat.le_of_ble_eq_true rfl)⟩) hS (fun H locs hP hS => ?_)
    refine lv_if_ne (tgt := 147) hx hb dX4_sizeOf_137 (by decide) (fun hc => ?_) (fun hc => ?_)
    · replace hf := hs_f hf hc
      exact wX4_sizeOf_j147 hX hf hP hS (lv_sub hl [] rfl)
    · replace hf := hs_t hf hc
      refine lv_iload_n hx hb dX4_sizeOf_140 rfl (lv_at hl 0 rfl) ?_
      obtain ⟨r8, g7, h9, hf⟩ := hs_bd_some hf
      refine hs_calli (va_runS (As := [.int v0]) (rest := []) ⟨hx, hb, hml, hown, hts⟩ (ctX4_isOfArray l B D E v0 g4 _ h9) (va_cwS 1 hts (hs_gS (fun _ h => List.mem_cons_of_mem _ h) wq266 wq267 wq258 wq268) rfl rfl rfl (by decide +kernel) ⟨Nat.le_of_ble_eq_true rfl, Nat.le_of_ble_eq_true rfl⟩) (hs_pre hP hK) rfl rfl hl.1 rfl (lv_room (Nat.le_of_ble_eq_true rfl)) dX4_sizeOf_141 ⟨(Nat.le_of_ble_eq_true rfl), (Nat.le_of_ble_eq_true rfl)⟩) hS (fun H locs hP hS => ?_)
      refine lv_if_eq (tgt := 151) hx hb dX4_sizeOf_144 (by decide) (fun hc => ?_) (fun hc => ?_)
      · replace hf := hs_t hf hc
        refine lv_iconst (v := 0) hx hb dX4_sizeOf_151 (by decide) ?_
        exact hs_iret hx hb hr hlocks rfl hK hP hS hf dX4_sizeOf_152
      · replace hf := hs_f hf hc
        exact wX4_sizeOf_j147 hX hf hP hS (lv_sub hl [] rfl)
  · replace hf := hs_f hf hc
    refine lv_iconst (v := 1) hx hb dX4_sizeOf_129 (by decide) ?_
    refine lv_goto (tgt := 152) hx hb dX4_sizeOf_130 (by decide) ?_
    exact hs_iret hx hb hr hlocks rfl hK hP hS hf dX4_sizeOf_152

theorem dX7_sizeAt_0 : decode cX7_sizeAt 0 = .ok (.aload_n 0, 1) := by decide +kernel
theorem dX7_sizeAt_1 : decode cX7_sizeAt 1 = .ok (.iload_n 1, 1) := by decide +kernel
theorem dX7_sizeAt_2 : decode cX7_sizeAt 2 = .ok (.invokevirtual 50, 3) := by decide +kernel
theorem dX7_sizeAt_5 : decode cX7_sizeAt 5 = .ok (.invokestatic 65, 3) := by decide +kernel
theorem dX7_sizeAt_8 : decode cX7_sizeAt 8 = .ok (.ireturn, 1) := by decide +kernel
abbrev wcX7_sizeAt : List Cond := .code yX7_sizeAt cX7_sizeAt 2 (some .int) :: wsL_law
def fX7_sizeAt (v0 : Nat) (v1 : Int32) (g : hs_S) : Option (Int32 × hs_S) :=
  if hs_kd g v0 = 6 then
  hs_bd (fX7_valueAt v0 v1 g) fun r3 g2 =>
  hs_bd (fX4_sizeOf r3 g2) fun r6 g5 =>
  some (r6, g5)
  else none
abbrev rmX7_sizeAt : Room := { frames := 2, cells := 0, slots := 0, locals := 42 }
set_option maxHeartbeats 4000000 in
set_option maxRecDepth 100000 in
theorem ctX7_sizeAt (l : Launch) (B : Nat) (D : va_G) (E : Nat → ClassId) (v0 : Nat) (v1 : Int32) (g : hs_S) (o : Int32 × hs_S) (hf : fX7_sizeAt v0 v1 g = some o) : Met l yX7_sizeAt wcX7_sizeAt rmX7_sizeAt (hs_Pc B D E g [.ref (B + v0), .int v1]) (hs_Qi B D E o) (0) (0) (hs_F B) := by
  refine Met.ofW (cc := cX7_sizeAt) (maxL := 2) (ret := (some .int)) (by decide) rfl ?_
  intro p e s m args below meth c s₁ Bd hml hv
  obtain ⟨rfl, hP, hK⟩ := hv
  have hx := Bd.exec
  have hb := Bd.bytes
  have hr := Bd.returns
  have hts := atoms_spec (ws := wcX7_sizeAt) Bd.pre
  have hown : s.vm.findClass RX7 = some m.cls := findClass_of_methodNamed Bd.named
  have hlocks := Bd.notSynchronized
  have hS : hs_Sx B s.heap s.heap [] := va_S.rf
  have hX : hs_cx cX7_sizeAt (some .int) 2 RX7 wcX7_sizeAt p s m (List.toArray [.ref (B + v0), .int v1]) meth c D E := ⟨hx, hb, hr, hml, hown, hts, hlocks, hK⟩
  have hl := lv_entry ([.ref (B + v0), .int v1]) (n := 2) (Nat.le_of_ble_eq_true rfl)
  rw [lg_entry_eq]
  generalize (lg_sl ([.ref (B + v0), .int v1]) ++ List.replicate (2 - (lg_sl ([.ref (B + v0), .int v1])).length) Slot.unset).toArray = ls at hl ⊢
  have hl : lv_has ls 2 [(0, .ref (B + v0)), (1, .int v1)] := hl
  have hP : hs_P B D E g s.heap := hP
  unfold fX7_sizeAt at hf
  refine lv_aload_n hx hb dX7_sizeAt_0 rfl (lv_at hl 0 rfl) ?_
  refine lv_iload_n hx hb dX7_sizeAt_1 rfl (lv_at hl 1 rfl) ?_
  obtain ⟨h1, hf⟩ := hs_ck hf
  obtain ⟨r3, g2, h4, hf⟩ := hs_bd_some hf
  refine hs_calli (va_runV (As := [.int v1]) (rest := []) ⟨hx, hb, hml, hown, hts⟩ (ctX7_valueAt l B D E v0 v1 g _ h4) (cwV 1 hts (hs_gV (fun _ h => List.mem_cons_of_mem _ h) wq248 wq249 wq250 wq43 wq251) rfl rfl rfl (by decide +kernel) ⟨Nat.le_of_ble_eq_true rfl, Nat.le_of_ble_eq_true rfl⟩) (hs_preV (r := (RX7, TX7, 11)) hP hK h1 (by decide) rfl) rfl rfl hl.1 rfl (lv_room (Nat.le_of_ble_eq_true rfl)) dX7_sizeAt_2 ⟨(Nat.le_of_ble_eq_true rfl), (Nat.le_of_ble_eq_true rfl)⟩) hS (fun H locs hP hS => ?_)
  obtain ⟨r6, g5, h7, hf⟩ := hs_bd_some hf
  refine hs_calli (va_runS (As := [.int r3]) (rest := []) ⟨hx, hb, hml, hown, hts⟩ (ctX4_sizeOf l B D E r3 g2 _ h7) (va_cwS 1 hts (hs_gS (fun _ h => List.mem_cons_of_mem _ h) wq256 wq257 wq258 wq259) rfl rfl rfl (by decide +kernel) ⟨Nat.le_of_ble_eq_true rfl, Nat.le_of_ble_eq_true rfl⟩) (hs_pre hP hK) rfl rfl hl.1 rfl (lv_room (Nat.le_of_ble_eq_true rfl)) dX7_sizeAt_5 ⟨(Nat.le_of_ble_eq_true rfl), (Nat.le_of_ble_eq_true rfl)⟩) hS (fun H locs hP hS => ?_)
  exact hs_iret hx hb hr hlocks rfl hK hP hS hf dX7_sizeAt_8

theorem dX0_has_0 : decode cX0_has 0 = .ok (.iload_n 1, 1) := by decide +kernel
theorem dX0_has_1 : decode cX0_has 1 = .ok (.ifCond .lt 15, 3) := by decide +kernel
theorem dX0_has_4 : decode cX0_has 4 = .ok (.iload_n 1, 1) := by decide +kernel
theorem dX0_has_5 : decode cX0_has 5 = .ok (.aload_n 0, 1) := by decide +kernel
theorem dX0_has_6 : decode cX0_has 6 = .ok (.getfield 32, 3) := by decide +kernel
theorem dX0_has_9 : decode cX0_has 9 = .ok (.if_icmp .ge 7, 3) := by decide +kernel
theorem dX0_has_12 : decode cX0_has 12 = .ok (.iconst 1, 1) := by decide +kernel
theorem dX0_has_13 : decode cX0_has 13 = .ok (.goto 4, 3) := by decide +kernel
theorem dX0_has_16 : decode cX0_has 16 = .ok (.iconst 0, 1) := by decide +kernel
theorem dX0_has_17 : decode cX0_has 17 = .ok (.ireturn, 1) := by decide +kernel
abbrev wcX0_has : List Cond := .code yX0_has cX0_has 2 (some .boolean) :: wsL_law
def fX0_has (v0 : Nat) (v1 : Int32) (g : hs_S) : Option (Int32 × hs_S) :=
  if v1 < 0 then (
    some ((0 : Int32), g)
  ) else (
    if hs_kd g v0 = 0 then
    if (hs_I g v0 4) ≤ v1 then (
      some ((0 : Int32), g)
    ) else (
      some ((1 : Int32), g)
    )
    else none
  )
abbrev rmX0_has : Room := { frames := 0, cells := 0, slots := 0, locals := 0 }
set_option maxHeartbeats 4000000 in
set_option maxRecDepth 100000 in
theorem ctX0_has (l : Launch) (B : Nat) (D : va_G) (E : Nat → ClassId) (v0 : Nat) (v1 : Int32) (g : hs_S) (o : Int32 × hs_S) (hf : fX0_has v0 v1 g = some o) : Met l yX0_has wcX0_has rmX0_has (hs_Pc B D E g [.ref (B + v0), .int v1]) (hs_Qi B D E o) (0) (0) (hs_F B) := by
  refine Met.ofW (cc := cX0_has) (maxL := 2) (ret := (some .boolean)) (by decide) rfl ?_
  intro p e s m args below meth c s₁ Bd hml hv
  obtain ⟨rfl, hP, hK⟩ := hv
  have hx := Bd.exec
  have hb := Bd.bytes
  have hr := Bd.returns
  have hts := atoms_spec (ws := wcX0_has) Bd.pre
  have hown : s.vm.findClass RX0 = some m.cls := findClass_of_methodNamed Bd.named
  have hlocks := Bd.notSynchronized
  have hS : hs_Sx B s.heap s.heap [] := va_S.rf
  have hX : hs_cx cX0_has (some .boolean) 2 RX0 wcX0_has p s m (List.toArray [.ref (B + v0), .int v1]) meth c D E := ⟨hx, hb, hr, hml, hown, hts, hlocks, hK⟩
  have hl := lv_entry ([.ref (B + v0), .int v1]) (n := 2) (Nat.le_of_ble_eq_true rfl)
  rw [lg_entry_eq]
  generalize (lg_sl ([.ref (B + v0), .int v1]) ++ List.replicate (2 - (lg_sl ([.ref (B + v0), .int v1])).length) Slot.unset).toArray = ls at hl ⊢
  have hl : lv_has ls 2 [(0, .ref (B + v0)), (1, .int v1)] := hl
  have hP : hs_P B D E g s.heap := hP
  unfold fX0_has at hf
  refine lv_iload_n hx hb dX0_has_0 rfl (lv_at hl 1 rfl) ?_
  refine lv_if_lt (tgt := 16) hx hb dX0_has_1 (by decide) (fun hc => ?_) (fun hc => ?_)
  · replace hf := hs_t hf hc
    refine lv_iconst (v := 0) hx hb dX0_has_16 (by decide) ?_
    exact hs_iret hx hb hr hlocks (hs_01_nar (rfl)) hK hP hS hf dX0_has_17
  · replace hf := hs_f hf hc
    refine lv_iload_n hx hb dX0_has_4 rfl (lv_at hl 1 rfl) ?_
    refine lv_aload_n hx hb dX0_has_5 rfl (lv_at hl 0 rfl) ?_
    obtain ⟨h1, hf⟩ := hs_ck hf
    refine hs_geti (C := RX0) (T := TX0) (N := 5) hx hb hts (fun w h => List.mem_cons_of_mem _ (inlX0 w h)) hown hK.1 hP h1 (by decide) rfl 4 (by decide) (hts _ (List.mem_cons_of_mem _ wq278)) (fun _ h => h) rfl dX0_has_6 ?_
    refine lv_icmp_ge (tgt := 16) hx hb dX0_has_9 (by decide) (fun hc => ?_) (fun hc => ?_)
    · replace hf := hs_t hf hc
      refine lv_iconst (v := 0) hx hb dX0_has_16 (by decide) ?_
      exact hs_iret hx hb hr hlocks (hs_01_nar (rfl)) hK hP hS hf dX0_has_17
    · replace hf := hs_f hf hc
      refine lv_iconst (v := 1) hx hb dX0_has_12 (by decide) ?_
      refine lv_goto (tgt := 17) hx hb dX0_has_13 (by decide) ?_
      exact hs_iret hx hb hr hlocks (hs_01_nar (rfl)) hK hP hS hf dX0_has_17

theorem dX2_hasOperand_0 : decode cX2_hasOperand 0 = .ok (.aload_n 2, 1) := by decide +kernel
theorem dX2_hasOperand_1 : decode cX2_hasOperand 1 = .ok (.iload_n 3, 1) := by decide +kernel
theorem dX2_hasOperand_2 : decode cX2_hasOperand 2 = .ok (.invokevirtual 105, 3) := by decide +kernel
theorem dX2_hasOperand_5 : decode cX2_hasOperand 5 = .ok (.istore 4, 2) := by decide +kernel
theorem dX2_hasOperand_7 : decode cX2_hasOperand 7 = .ok (.aload_n 2, 1) := by decide +kernel
theorem dX2_hasOperand_8 : decode cX2_hasOperand 8 = .ok (.iload_n 3, 1) := by decide +kernel
theorem dX2_hasOperand_9 : decode cX2_hasOperand 9 = .ok (.iconst 1, 1) := by decide +kernel
theorem dX2_hasOperand_10 : decode cX2_hasOperand 10 = .ok (.iadd, 1) := by decide +kernel
theorem dX2_hasOperand_11 : decode cX2_hasOperand 11 = .ok (.invokevirtual 105, 3) := by decide +kernel
theorem dX2_hasOperand_14 : decode cX2_hasOperand 14 = .ok (.istore 5, 2) := by decide +kernel
theorem dX2_hasOperand_16 : decode cX2_hasOperand 16 = .ok (.iload 4, 2) := by decide +kernel
theorem dX2_hasOperand_18 : decode cX2_hasOperand 18 = .ok (.bipush 21, 2) := by decide +kernel
theorem dX2_hasOperand_20 : decode cX2_hasOperand 20 = .ok (.if_icmp .eq 10, 3) := by decide +kernel
theorem dX2_hasOperand_23 : decode cX2_hasOperand 23 = .ok (.iload 4, 2) := by decide +kernel
theorem dX2_hasOperand_25 : decode cX2_hasOperand 25 = .ok (.bipush 54, 2) := by decide +kernel
theorem dX2_hasOperand_27 : decode cX2_hasOperand 27 = .ok (.if_icmp .ne 18, 3) := by decide +kernel
theorem dX2_hasOperand_30 : decode cX2_hasOperand 30 = .ok (.iload 5, 2) := by decide +kernel
theorem dX2_hasOperand_32 : decode cX2_hasOperand 32 = .ok (.aload_n 2, 1) := by decide +kernel
theorem dX2_hasOperand_33 : decode cX2_hasOperand 33 = .ok (.getfield 85, 3) := by decide +kernel
theorem dX2_hasOperand_36 : decode cX2_hasOperand 36 = .ok (.if_icmp .ge 7, 3) := by decide +kernel
theorem dX2_hasOperand_39 : decode cX2_hasOperand 39 = .ok (.iconst 1, 1) := by decide +kernel
theorem dX2_hasOperand_40 : decode cX2_hasOperand 40 = .ok (.goto 4, 3) := by decide +kernel
theorem dX2_hasOperand_43 : decode cX2_hasOperand 43 = .ok (.iconst 0, 1) := by decide +kernel
theorem dX2_hasOperand_44 : decode cX2_hasOperand 44 = .ok (.ireturn, 1) := by decide +kernel
theorem dX2_hasOperand_45 : decode cX2_hasOperand 45 = .ok (.iload 4, 2) := by decide +kernel
theorem dX2_hasOperand_47 : decode cX2_hasOperand 47 = .ok (.sipush 184, 3) := by decide +kernel
theorem dX2_hasOperand_50 : decode cX2_hasOperand 50 = .ok (.if_icmp .ne 10, 3) := by decide +kernel
theorem dX2_hasOperand_53 : decode cX2_hasOperand 53 = .ok (.aload_n 1, 1) := by decide +kernel
theorem dX2_hasOperand_54 : decode cX2_hasOperand 54 = .ok (.iload 5, 2) := by decide +kernel
theorem dX2_hasOperand_56 : decode cX2_hasOperand 56 = .ok (.invokevirtual 111, 3) := by decide +kernel
theorem dX2_hasOperand_59 : decode cX2_hasOperand 59 = .ok (.ireturn, 1) := by decide +kernel
theorem dX2_hasOperand_60 : decode cX2_hasOperand 60 = .ok (.iload 4, 2) := by decide +kernel
theorem dX2_hasOperand_62 : decode cX2_hasOperand 62 = .ok (.invokestatic 115, 3) := by decide +kernel
theorem dX2_hasOperand_65 : decode cX2_hasOperand 65 = .ok (.ifCond .eq 9, 3) := by decide +kernel
theorem dX2_hasOperand_68 : decode cX2_hasOperand 68 = .ok (.iload 5, 2) := by decide +kernel
theorem dX2_hasOperand_70 : decode cX2_hasOperand 70 = .ok (.iconst 4, 1) := by decide +kernel
theorem dX2_hasOperand_71 : decode cX2_hasOperand 71 = .ok (.if_icmp .ge 7, 3) := by decide +kernel
theorem dX2_hasOperand_74 : decode cX2_hasOperand 74 = .ok (.iconst 1, 1) := by decide +kernel
theorem dX2_hasOperand_75 : decode cX2_hasOperand 75 = .ok (.goto 4, 3) := by decide +kernel
theorem dX2_hasOperand_78 : decode cX2_hasOperand 78 = .ok (.iconst 0, 1) := by decide +kernel
theorem dX2_hasOperand_79 : decode cX2_hasOperand 79 = .ok (.ireturn, 1) := by decide +kernel
abbrev wcX2_hasOperand : List Cond := .code yX2_hasOperand cX2_hasOperand 6 (some .boolean) :: wsL_law
def jX2_hasOperand_30 (v2 : Nat) (v5 : Int32) (g : hs_S) : Option (Int32 × hs_S) :=
  if hs_kd g v2 = 6 then
  if (hs_I g v2 5) ≤ v5 then (
    some ((0 : Int32), g)
  ) else (
    some ((1 : Int32), g)
  )
  else none
def jX2_hasOperand_74  (g : hs_S) : Option (Int32 × hs_S) :=
  some ((1 : Int32), g)
def fX2_hasOperand (v0 : Nat) (v1 : Nat) (v2 : Nat) (v3 : Int32) (g : hs_S) : Option (Int32 × hs_S) :=
  if hs_kd g v2 = 6 then
  hs_bd (fX7_valueAt v2 v3 g) fun r3 g2 =>
  if hs_kd g2 v2 = 6 then
  hs_bd (fX7_valueAt v2 (v3 + (1 : Int32)) g2) fun r7 g6 =>
  if r3 = (21 : Int32) then (
    jX2_hasOperand_30 v2 r7 g6
  ) else (
    if r3 = (54 : Int32) then (
      jX2_hasOperand_30 v2 r7 g6
    ) else (
      if r3 = (184 : Int32) then (
        if hs_kd g6 v1 = 0 then
        hs_bd (fX0_has v1 r7 g6) fun r15 g14 =>
        if hs_01 r15 = true then
        some (r15, g14)
        else none else none
      ) else (
        hs_bd (fX4_isOfArray r3 g6) fun r11 g10 =>
        if r11 = 0 then (
          jX2_hasOperand_74 g10
        ) else (
          if (4 : Int32) ≤ r7 then (
            some ((0 : Int32), g10)
          ) else (
            jX2_hasOperand_74 g10
          )
        )
      )
    )
  )
  else none else none
abbrev rmX2_hasOperand : Room := { frames := 2, cells := 0, slots := 0, locals := 42 }
set_option maxHeartbeats 4000000 in
set_option maxRecDepth 100000 in
theorem wX2_hasOperand_j30 {p : Program} {l : Launch} {e : Env} {s : State} {m : MethodId} {args : Array Value} {below : List Frame} {meth : Method} {c : Code} {B : Nat} {D : va_G} {E : Nat → ClassId} (hX : hs_cx cX2_hasOperand (some .boolean) 6 RX2 wcX2_hasOperand p s m args meth c D E) {o : Int32 × hs_S}  {v2 : Nat} {v5 : Int32}   {g : hs_S} {H : Heap} {locs : List Loc} {ls : Array Slot} (hf : jX2_hasOperand_30 v2 v5 g = some o) (hP : hs_P B D E g H) (hS : hs_Sx B s.heap H locs) (hl : lv_has ls 6 [(2, .ref (B + v2)), (5, .int v5)]) : W p l e rmX2_hasOperand s m args below meth c H locs 0 0 (MQ below (hs_Qi B D E o) args s 0 0 (hs_F B)) (F0 m 30 ls []) := by
  obtain ⟨hx, hb, hr, hml, hown, hts, hlocks, hK⟩ := id hX
  unfold jX2_hasOperand_30 at hf
  refine lv_iload hx hb dX2_hasOperand_30 (lv_at hl 1 rfl) ?_
  refine lv_aload_n hx hb dX2_hasOperand_32 rfl (lv_at hl 0 rfl) ?_
  obtain ⟨h9, hf⟩ := hs_ck hf
  refine hs_geti (C := RX7) (T := TX7) (N := 11) hx hb hts (fun w h => List.mem_cons_of_mem _ (inlX7 w h)) hown hK.1 hP h9 (by decide) rfl 5 (by decide) (hts _ (List.mem_cons_of_mem _ wq218)) (fun _ h => h) rfl dX2_hasOperand_33 ?_
  refine lv_icmp_ge (tgt := 43) hx hb dX2_hasOperand_36 (by decide) (fun hc => ?_) (fun hc => ?_)
  · replace hf := hs_t hf hc
    refine lv_iconst (v := 0) hx hb dX2_hasOperand_43 (by decide) ?_
    exact hs_iret hx hb hr hlocks (hs_01_nar (rfl)) hK hP hS hf dX2_hasOperand_44
  · replace hf := hs_f hf hc
    refine lv_iconst (v := 1) hx hb dX2_hasOperand_39 (by decide) ?_
    refine lv_goto (tgt := 44) hx hb dX2_hasOperand_40 (by decide) ?_
    exact hs_iret hx hb hr hlocks (hs_01_nar (rfl)) hK hP hS hf dX2_hasOperand_44

set_option maxHeartbeats 4000000 in
set_option maxRecDepth 100000 in
theorem wX2_hasOperand_j74 {p : Program} {l : Launch} {e : Env} {s : State} {m : MethodId} {args : Array Value} {below : List Frame} {meth : Method} {c : Code} {B : Nat} {D : va_G} {E : Nat → ClassId} (hX : hs_cx cX2_hasOperand (some .boolean) 6 RX2 wcX2_hasOperand p s m args meth c D E) {o : Int32 × hs_S}     {g : hs_S} {H : Heap} {locs : List Loc} {ls : Array Slot} (hf : jX2_hasOperand_74  g = some o) (hP : hs_P B D E g H) (hS : hs_Sx B s.heap H locs) (hl : lv_has ls 6 []) : W p l e rmX2_hasOperand s m args below meth c H locs 0 0 (MQ below (hs_Qi B D E o) args s 0 0 (hs_F B)) (F0 m 74 ls []) := by
  obtain ⟨hx, hb, hr, hml, hown, hts, hlocks, hK⟩ := id hX
  unfold jX2_hasOperand_74 at hf
  refine lv_iconst (v := 1) hx hb dX2_hasOperand_74 (by decide) ?_
  refine lv_goto (tgt := 79) hx hb dX2_hasOperand_75 (by decide) ?_
  exact hs_iret hx hb hr hlocks (hs_01_nar (rfl)) hK hP hS hf dX2_hasOperand_79

set_option maxHeartbeats 4000000 in
set_option maxRecDepth 100000 in
theorem ctX2_hasOperand (l : Launch) (B : Nat) (D : va_G) (E : Nat → ClassId) (v0 : Nat) (v1 : Nat) (v2 : Nat) (v3 : Int32) (g : hs_S) (o : Int32 × hs_S) (hf : fX2_hasOperand v0 v1 v2 v3 g = some o) : Met l yX2_hasOperand wcX2_hasOperand rmX2_hasOperand (hs_Pc B D E g [.ref (B + v0), .ref (B + v1), .ref (B + v2), .int v3]) (hs_Qi B D E o) (0) (0) (hs_F B) := by
  refine Met.ofW (cc := cX2_hasOperand) (maxL := 6) (ret := (some .boolean)) (by decide) rfl ?_
  intro p e s m args below meth c s₁ Bd hml hv
  obtain ⟨rfl, hP, hK⟩ := hv
  have hx := Bd.exec
  have hb := Bd.bytes
  have hr := Bd.returns
  have hts := atoms_spec (ws := wcX2_hasOperand) Bd.pre
  have hown : s.vm.findClass RX2 = some m.cls := findClass_of_methodNamed Bd.named
  have hlocks := Bd.notSynchronized
  have hS : hs_Sx B s.heap s.heap [] := va_S.rf
  have hX : hs_cx cX2_hasOperand (some .boolean) 6 RX2 wcX2_hasOperand p s m (List.toArray [.ref (B + v0), .ref (B + v1), .ref (B + v2), .int v3]) meth c D E := ⟨hx, hb, hr, hml, hown, hts, hlocks, hK⟩
  have hl := lv_entry ([.ref (B + v0), .ref (B + v1), .ref (B + v2), .int v3]) (n := 6) (Nat.le_of_ble_eq_true rfl)
  rw [lg_entry_eq]
  generalize (lg_sl ([.ref (B + v0), .ref (B + v1), .ref (B + v2), .int v3]) ++ List.replicate (6 - (lg_sl ([.ref (B + v0), .ref (B + v1), .ref (B + v2), .int v3])).length) Slot.unset).toArray = ls at hl ⊢
  have hl : lv_has ls 6 [(0, .ref (B + v0)), (1, .ref (B + v1)), (2, .ref (B + v2)), (3, .int v3)] := hl
  have hP : hs_P B D E g s.heap := hP
  unfold fX2_hasOperand at hf
  refine lv_aload_n hx hb dX2_hasOperand_0 rfl (lv_at hl 2 rfl) ?_
  refine lv_iload_n hx hb dX2_hasOperand_1 rfl (lv_at hl 3 rfl) ?_
  obtain ⟨h1, hf⟩ := hs_ck hf
  obtain ⟨r3, g2, h4, hf⟩ := hs_bd_some hf
  refine hs_calli (va_runV (As := [.int v3]) (rest := []) ⟨hx, hb, hml, hown, hts⟩ (ctX7_valueAt l B D E v2 v3 g _ h4) (cwV 1 hts (hs_gV (fun _ h => List.mem_cons_of_mem _ h) wq273 wq249 wq250 wq43 wq251) rfl rfl rfl (by decide +kernel) ⟨Nat.le_of_ble_eq_true rfl, Nat.le_of_ble_eq_true rfl⟩) (hs_preV (r := (RX7, TX7, 11)) hP hK h1 (by decide) rfl) rfl rfl hl.1 rfl (lv_room (Nat.le_of_ble_eq_true rfl)) dX2_hasOperand_2 ⟨(Nat.le_of_ble_eq_true rfl), (Nat.le_of_ble_eq_true rfl)⟩) hS (fun H locs hP hS => ?_)
  refine lv_istore (lv' := [(4, .int r3), (0, .ref (B + v0)), (1, .ref (B + v1)), (2, .ref (B + v2)), (3, .int v3)]) hx hb dX2_hasOperand_5 hl (by decide) rfl (fun ls hl => ?_)
  refine lv_aload_n hx hb dX2_hasOperand_7 rfl (lv_at hl 3 rfl) ?_
  refine lv_iload_n hx hb dX2_hasOperand_8 rfl (lv_at hl 4 rfl) ?_
  refine lv_iconst (v := 1) hx hb dX2_hasOperand_9 (by decide) ?_
  refine lv_iadd hx hb dX2_hasOperand_10 ?_
  obtain ⟨h5, hf⟩ := hs_ck hf
  obtain ⟨r7, g6, h8, hf⟩ := hs_bd_some hf
  refine hs_calli (va_runV (As := [.int (v3 + (1 : Int32))]) (rest := []) ⟨hx, hb, hml, hown, hts⟩ (ctX7_valueAt l B D E v2 (v3 + (1 : Int32)) g2 _ h8) (cwV 1 hts (hs_gV (fun _ h => List.mem_cons_of_mem _ h) wq273 wq249 wq250 wq43 wq251) rfl rfl rfl (by decide +kernel) ⟨Nat.le_of_ble_eq_true rfl, Nat.le_of_ble_eq_true rfl⟩) (hs_preV (r := (RX7, TX7, 11)) hP hK h5 (by decide) rfl) rfl rfl hl.1 rfl (lv_room (Nat.le_of_ble_eq_true rfl)) dX2_hasOperand_11 ⟨(Nat.le_of_ble_eq_true rfl), (Nat.le_of_ble_eq_true rfl)⟩) hS (fun H locs hP hS => ?_)
  refine lv_istore (lv' := [(5, .int r7), (4, .int r3), (0, .ref (B + v0)), (1, .ref (B + v1)), (2, .ref (B + v2)), (3, .int v3)]) hx hb dX2_hasOperand_14 hl (by decide) rfl (fun ls hl => ?_)
  refine lv_iload hx hb dX2_hasOperand_16 (lv_at hl 1 rfl) ?_
  refine lv_bipush (v := 21) hx hb dX2_hasOperand_18 (by decide) ?_
  refine lv_icmp_eq (tgt := 30) hx hb dX2_hasOperand_20 (by decide) (fun hc => ?_) (fun hc => ?_)
  · replace hf := hs_t hf hc
    exact wX2_hasOperand_j30 hX hf hP hS (lv_sub hl [4, 0] rfl)
  · replace hf := hs_f hf hc
    refine lv_iload hx hb dX2_hasOperand_23 (lv_at hl 1 rfl) ?_
    refine lv_bipush (v := 54) hx hb dX2_hasOperand_25 (by decide) ?_
    refine lv_icmp_ne (tgt := 45) hx hb dX2_hasOperand_27 (by decide) (fun hc => ?_) (fun hc => ?_)
    · replace hf := hs_f hf hc
      refine lv_iload hx hb dX2_hasOperand_45 (lv_at hl 1 rfl) ?_
      refine lv_sipush (v := 184) hx hb dX2_hasOperand_47 (by decide) ?_
      refine lv_icmp_ne (tgt := 60) hx hb dX2_hasOperand_50 (by decide) (fun hc => ?_) (fun hc => ?_)
      · replace hf := hs_f hf hc
        refine lv_iload hx hb dX2_hasOperand_60 (lv_at hl 1 rfl) ?_
        obtain ⟨r11, g10, h12, hf⟩ := hs_bd_some hf
        refine hs_calli (va_runS (As := [.int r3]) (rest := []) ⟨hx, hb, hml, hown, hts⟩ (ctX4_isOfArray l B D E r3 g6 _ h12) (va_cwS 1 hts (hs_gS (fun _ h => List.mem_cons_of_mem _ h) wq279 wq267 wq258 wq268) rfl rfl rfl (by decide +kernel) ⟨Nat.le_of_ble_eq_true rfl, Nat.le_of_ble_eq_true rfl⟩) (hs_pre hP hK) rfl rfl hl.1 rfl (lv_room (Nat.le_of_ble_eq_true rfl)) dX2_hasOperand_62 ⟨(Nat.le_of_ble_eq_true rfl), (Nat.le_of_ble_eq_true rfl)⟩) hS (fun H locs hP hS => ?_)
        refine lv_if_eq (tgt := 74) hx hb dX2_hasOperand_65 (by decide) (fun hc => ?_) (fun hc => ?_)
        · replace hf := hs_t hf hc
          exact wX2_hasOperand_j74 hX hf hP hS (lv_sub hl [] rfl)
        · replace hf := hs_f hf hc
          refine lv_iload hx hb dX2_hasOperand_68 (lv_at hl 0 rfl) ?_
          refine lv_iconst (v := 4) hx hb dX2_hasOperand_70 (by decide) ?_
          refine lv_icmp_ge (tgt := 78) hx hb dX2_hasOperand_71 (by decide) (fun hc => ?_) (fun hc => ?_)
          · replace hf := hs_t hf hc
            refine lv_iconst (v := 0) hx hb dX2_hasOperand_78 (by decide) ?_
            exact hs_iret hx hb hr hlocks (hs_01_nar (rfl)) hK hP hS hf dX2_hasOperand_79
          · replace hf := hs_f hf hc
            exact wX2_hasOperand_j74 hX hf hP hS (lv_sub hl [] rfl)
      · replace hf := hs_t hf hc
        refine lv_aload_n hx hb dX2_hasOperand_53 rfl (lv_at hl 3 rfl) ?_
        refine lv_iload hx hb dX2_hasOperand_54 (lv_at hl 0 rfl) ?_
        obtain ⟨h13, hf⟩ := hs_ck hf
        obtain ⟨r15, g14, h16, hf⟩ := hs_bd_some hf
        refine hs_calli (va_runV (As := [.int r7]) (rest := []) ⟨hx, hb, hml, hown, hts⟩ (ctX0_has l B D E v1 r7 g6 _ h16) (cwV 1 hts (hs_gV (fun _ h => List.mem_cons_of_mem _ h) wq274 wq275 wq276 wq15 wq277) rfl rfl rfl (by decide +kernel) ⟨Nat.le_of_ble_eq_true rfl, Nat.le_of_ble_eq_true rfl⟩) (hs_preV (r := (RX0, TX0, 5)) hP hK h13 (by decide) rfl) rfl rfl hl.1 rfl (lv_room (Nat.le_of_ble_eq_true rfl)) dX2_hasOperand_56 ⟨(Nat.le_of_ble_eq_true rfl), (Nat.le_of_ble_eq_true rfl)⟩) hS (fun H locs hP hS => ?_)
        obtain ⟨h17, hf⟩ := hs_ck hf
        exact hs_iret hx hb hr hlocks (hs_01_nar h17) hK hP hS hf dX2_hasOperand_59
    · replace hf := hs_t hf hc
      exact wX2_hasOperand_j30 hX hf hP hS (lv_sub hl [4, 0] rfl)

theorem dX7_mark_0 : decode cX7_mark 0 = .ok (.aload_n 0, 1) := by decide +kernel
theorem dX7_mark_1 : decode cX7_mark 1 = .ok (.iload_n 1, 1) := by decide +kernel
theorem dX7_mark_2 : decode cX7_mark 2 = .ok (.invokevirtual 46, 3) := by decide +kernel
theorem dX7_mark_5 : decode cX7_mark 5 = .ok (.ifCond .eq 18, 3) := by decide +kernel
theorem dX7_mark_8 : decode cX7_mark 8 = .ok (.aload_n 0, 1) := by decide +kernel
theorem dX7_mark_9 : decode cX7_mark 9 = .ok (.getfield 15, 3) := by decide +kernel
theorem dX7_mark_12 : decode cX7_mark 12 = .ok (.aload_n 0, 1) := by decide +kernel
theorem dX7_mark_13 : decode cX7_mark 13 = .ok (.getfield 18, 3) := by decide +kernel
theorem dX7_mark_16 : decode cX7_mark 16 = .ok (.iload_n 1, 1) := by decide +kernel
theorem dX7_mark_17 : decode cX7_mark 17 = .ok (.iadd, 1) := by decide +kernel
theorem dX7_mark_18 : decode cX7_mark 18 = .ok (.dup2, 1) := by decide +kernel
theorem dX7_mark_19 : decode cX7_mark 19 = .ok (.iaload, 1) := by decide +kernel
theorem dX7_mark_20 : decode cX7_mark 20 = .ok (.iload_n 2, 1) := by decide +kernel
theorem dX7_mark_21 : decode cX7_mark 21 = .ok (.ior, 1) := by decide +kernel
theorem dX7_mark_22 : decode cX7_mark 22 = .ok (.iastore, 1) := by decide +kernel
theorem dX7_mark_23 : decode cX7_mark 23 = .ok (.return_, 1) := by decide +kernel
abbrev wcX7_mark : List Cond := .code yX7_mark cX7_mark 3 none :: wsL_law
def fX7_mark (v0 : Nat) (v1 : Int32) (v2 : Int32) (g : hs_S) : Option (hs_S) :=
  if hs_kd g v0 = 6 then
  hs_bd (fX7_hasPlace v0 v1 g) fun r3 g2 =>
  if r3 = 0 then (
    some g2
  ) else (
    if hs_kd g2 v0 = 6 then
    if ¬ (hs_R g2 v0 0) = 0 then
    if hs_kd g2 ((hs_R g2 v0 0) - 1) = 100 then
    if hs_in ((hs_I g2 v0 2) + v1) (hs_ln g2 ((hs_R g2 v0 0) - 1)) = true then
    some (hs_wI g2 ((hs_R g2 v0 0) - 1) ((hs_I g2 v0 2) + v1).toNatClampNeg ((hs_I g2 ((hs_R g2 v0 0) - 1) ((hs_I g2 v0 2) + v1).toNatClampNeg) ||| v2))
    else none else none else none else none
  )
  else none
abbrev rmX7_mark : Room := { frames := 1, cells := 0, slots := 0, locals := 21 }
set_option maxHeartbeats 4000000 in
set_option maxRecDepth 100000 in
theorem ctX7_mark (l : Launch) (B : Nat) (D : va_G) (E : Nat → ClassId) (v0 : Nat) (v1 : Int32) (v2 : Int32) (g : hs_S) (o : hs_S) (hf : fX7_mark v0 v1 v2 g = some o) : Met l yX7_mark wcX7_mark rmX7_mark (hs_Pc B D E g [.ref (B + v0), .int v1, .int v2]) (hs_Qv B D E o) (0) (0) (hs_F B) := by
  refine Met.ofW (cc := cX7_mark) (maxL := 3) (ret := none) (by decide) rfl ?_
  intro p e s m args below meth c s₁ Bd hml hv
  obtain ⟨rfl, hP, hK⟩ := hv
  have hx := Bd.exec
  have hb := Bd.bytes
  have hr := Bd.returns
  have hts := atoms_spec (ws := wcX7_mark) Bd.pre
  have hown : s.vm.findClass RX7 = some m.cls := findClass_of_methodNamed Bd.named
  have hlocks := Bd.notSynchronized
  have hS : hs_Sx B s.heap s.heap [] := va_S.rf
  have hX : hs_cx cX7_mark none 3 RX7 wcX7_mark p s m (List.toArray [.ref (B + v0), .int v1, .int v2]) meth c D E := ⟨hx, hb, hr, hml, hown, hts, hlocks, hK⟩
  have hl := lv_entry ([.ref (B + v0), .int v1, .int v2]) (n := 3) (Nat.le_of_ble_eq_true rfl)
  rw [lg_entry_eq]
  generalize (lg_sl ([.ref (B + v0), .int v1, .int v2]) ++ List.replicate (3 - (lg_sl ([.ref (B + v0), .int v1, .int v2])).length) Slot.unset).toArray = ls at hl ⊢
  have hl : lv_has ls 3 [(0, .ref (B + v0)), (1, .int v1), (2, .int v2)] := hl
  have hP : hs_P B D E g s.heap := hP
  unfold fX7_mark at hf
  refine lv_aload_n hx hb dX7_mark_0 rfl (lv_at hl 0 rfl) ?_
  refine lv_iload_n hx hb dX7_mark_1 rfl (lv_at hl 1 rfl) ?_
  obtain ⟨h1, hf⟩ := hs_ck hf
  obtain ⟨r3, g2, h4, hf⟩ := hs_bd_some hf
  refine hs_calli (va_runV (As := [.int v1]) (rest := []) ⟨hx, hb, hml, hown, hts⟩ (ctX7_hasPlace l B D E v0 v1 g _ h4) (cwV 1 hts (hs_gV (fun _ h => List.mem_cons_of_mem _ h) wq252 wq253 wq254 wq43 wq255) rfl rfl rfl (by decide +kernel) ⟨Nat.le_of_ble_eq_true rfl, Nat.le_of_ble_eq_true rfl⟩) (hs_preV (r := (RX7, TX7, 11)) hP hK h1 (by decide) rfl) rfl rfl hl.1 rfl (lv_room (Nat.le_of_ble_eq_true rfl)) dX7_mark_2 ⟨(Nat.le_of_ble_eq_true rfl), (Nat.le_of_ble_eq_true rfl)⟩) hS (fun H locs hP hS => ?_)
  refine lv_if_eq (tgt := 23) hx hb dX7_mark_5 (by decide) (fun hc => ?_) (fun hc => ?_)
  · replace hf := hs_t hf hc
    exact hs_vret hx hb hr hlocks hK hP hS hf dX7_mark_23
  · replace hf := hs_f hf hc
    refine lv_aload_n hx hb dX7_mark_8 rfl (lv_at hl 0 rfl) ?_
    obtain ⟨h5, hf⟩ := hs_ck hf
    obtain ⟨h6, hf⟩ := hs_ck hf
    refine hs_getr (C := RX7) (T := TX7) (N := 11) hx hb hts (fun w h => List.mem_cons_of_mem _ (inlX7 w h)) hown hK.1 hP h5 (by decide) rfl 0 (by decide) (hts _ (List.mem_cons_of_mem _ wq52)) (fun _ h => h) rfl h6 dX7_mark_9 ?_
    refine lv_aload_n hx hb dX7_mark_12 rfl (lv_at hl 0 rfl) ?_
    refine hs_geti (C := RX7) (T := TX7) (N := 11) hx hb hts (fun w h => List.mem_cons_of_mem _ (inlX7 w h)) hown hK.1 hP h5 (by decide) rfl 2 (by decide) (hts _ (List.mem_cons_of_mem _ wq204)) (fun _ h => h) rfl dX7_mark_13 ?_
    refine lv_iload_n hx hb dX7_mark_16 rfl (lv_at hl 1 rfl) ?_
    refine lv_iadd hx hb dX7_mark_17 ?_
    refine lv_dup2_11 hx hb dX7_mark_18 rfl rfl ?_
    obtain ⟨h7, hf⟩ := hs_ck hf
    obtain ⟨h8, hf⟩ := hs_ck hf
    refine hs_iald hx hb hK.1 hP h7 h8 dX7_mark_19 ?_
    refine lv_iload_n hx hb dX7_mark_20 rfl (lv_at hl 2 rfl) ?_
    refine lv_ior hx hb dX7_mark_21 ?_
    refine hs_iast hx hb hK.1 hP hS h7 h8 dX7_mark_22 (fun H locs hP hS => ?_)
    exact hs_vret hx hb hr hlocks hK hP hS hf dX7_mark_23

theorem dX2_wrongInstruction_0 : decode cX2_wrongInstruction 0 = .ok (.iconst 0, 1) := by decide +kernel
theorem dX2_wrongInstruction_1 : decode cX2_wrongInstruction 1 = .ok (.istore_n 3, 1) := by decide +kernel
theorem dX2_wrongInstruction_2 : decode cX2_wrongInstruction 2 = .ok (.iload_n 3, 1) := by decide +kernel
theorem dX2_wrongInstruction_3 : decode cX2_wrongInstruction 3 = .ok (.aload_n 2, 1) := by decide +kernel
theorem dX2_wrongInstruction_4 : decode cX2_wrongInstruction 4 = .ok (.getfield 59, 3) := by decide +kernel
theorem dX2_wrongInstruction_7 : decode cX2_wrongInstruction 7 = .ok (.if_icmp .ge 92, 3) := by decide +kernel
theorem dX2_wrongInstruction_10 : decode cX2_wrongInstruction 10 = .ok (.aload_n 2, 1) := by decide +kernel
theorem dX2_wrongInstruction_11 : decode cX2_wrongInstruction 11 = .ok (.iload_n 3, 1) := by decide +kernel
theorem dX2_wrongInstruction_12 : decode cX2_wrongInstruction 12 = .ok (.invokevirtual 94, 3) := by decide +kernel
theorem dX2_wrongInstruction_15 : decode cX2_wrongInstruction 15 = .ok (.istore 4, 2) := by decide +kernel
theorem dX2_wrongInstruction_17 : decode cX2_wrongInstruction 17 = .ok (.iload 4, 2) := by decide +kernel
theorem dX2_wrongInstruction_19 : decode cX2_wrongInstruction 19 = .ok (.ifCond .le 18, 3) := by decide +kernel
theorem dX2_wrongInstruction_22 : decode cX2_wrongInstruction 22 = .ok (.iload_n 3, 1) := by decide +kernel
theorem dX2_wrongInstruction_23 : decode cX2_wrongInstruction 23 = .ok (.iload 4, 2) := by decide +kernel
theorem dX2_wrongInstruction_25 : decode cX2_wrongInstruction 25 = .ok (.iadd, 1) := by decide +kernel
theorem dX2_wrongInstruction_26 : decode cX2_wrongInstruction 26 = .ok (.aload_n 2, 1) := by decide +kernel
theorem dX2_wrongInstruction_27 : decode cX2_wrongInstruction 27 = .ok (.getfield 59, 3) := by decide +kernel
theorem dX2_wrongInstruction_30 : decode cX2_wrongInstruction 30 = .ok (.if_icmp .gt 7, 3) := by decide +kernel
theorem dX2_wrongInstruction_33 : decode cX2_wrongInstruction 33 = .ok (.iconst 1, 1) := by decide +kernel
theorem dX2_wrongInstruction_34 : decode cX2_wrongInstruction 34 = .ok (.goto 4, 3) := by decide +kernel
theorem dX2_wrongInstruction_37 : decode cX2_wrongInstruction 37 = .ok (.iconst 0, 1) := by decide +kernel
theorem dX2_wrongInstruction_38 : decode cX2_wrongInstruction 38 = .ok (.istore 5, 2) := by decide +kernel
theorem dX2_wrongInstruction_40 : decode cX2_wrongInstruction 40 = .ok (.iload 5, 2) := by decide +kernel
theorem dX2_wrongInstruction_42 : decode cX2_wrongInstruction 42 = .ok (.ifCond .eq 13, 3) := by decide +kernel
theorem dX2_wrongInstruction_45 : decode cX2_wrongInstruction 45 = .ok (.aload_n 0, 1) := by decide +kernel
theorem dX2_wrongInstruction_46 : decode cX2_wrongInstruction 46 = .ok (.aload_n 1, 1) := by decide +kernel
theorem dX2_wrongInstruction_47 : decode cX2_wrongInstruction 47 = .ok (.aload_n 2, 1) := by decide +kernel
theorem dX2_wrongInstruction_48 : decode cX2_wrongInstruction 48 = .ok (.iload_n 3, 1) := by decide +kernel
theorem dX2_wrongInstruction_49 : decode cX2_wrongInstruction 49 = .ok (.invokevirtual 97, 3) := by decide +kernel
theorem dX2_wrongInstruction_52 : decode cX2_wrongInstruction 52 = .ok (.ifCond .ne 10, 3) := by decide +kernel
theorem dX2_wrongInstruction_55 : decode cX2_wrongInstruction 55 = .ok (.aload_n 2, 1) := by decide +kernel
theorem dX2_wrongInstruction_56 : decode cX2_wrongInstruction 56 = .ok (.getfield 56, 3) := by decide +kernel
theorem dX2_wrongInstruction_59 : decode cX2_wrongInstruction 59 = .ok (.iload_n 3, 1) := by decide +kernel
theorem dX2_wrongInstruction_60 : decode cX2_wrongInstruction 60 = .ok (.iadd, 1) := by decide +kernel
theorem dX2_wrongInstruction_61 : decode cX2_wrongInstruction 61 = .ok (.ireturn, 1) := by decide +kernel
theorem dX2_wrongInstruction_62 : decode cX2_wrongInstruction 62 = .ok (.aload_n 2, 1) := by decide +kernel
theorem dX2_wrongInstruction_63 : decode cX2_wrongInstruction 63 = .ok (.iload_n 3, 1) := by decide +kernel
theorem dX2_wrongInstruction_64 : decode cX2_wrongInstruction 64 = .ok (.sipush 256, 3) := by decide +kernel
theorem dX2_wrongInstruction_67 : decode cX2_wrongInstruction 67 = .ok (.invokevirtual 101, 3) := by decide +kernel
theorem dX2_wrongInstruction_70 : decode cX2_wrongInstruction 70 = .ok (.aload_n 2, 1) := by decide +kernel
theorem dX2_wrongInstruction_71 : decode cX2_wrongInstruction 71 = .ok (.iload_n 3, 1) := by decide +kernel
theorem dX2_wrongInstruction_72 : decode cX2_wrongInstruction 72 = .ok (.invokevirtual 105, 3) := by decide +kernel
theorem dX2_wrongInstruction_75 : decode cX2_wrongInstruction 75 = .ok (.sipush 168, 3) := by decide +kernel
theorem dX2_wrongInstruction_78 : decode cX2_wrongInstruction 78 = .ok (.if_icmp .ne 13, 3) := by decide +kernel
theorem dX2_wrongInstruction_81 : decode cX2_wrongInstruction 81 = .ok (.aload_n 2, 1) := by decide +kernel
theorem dX2_wrongInstruction_82 : decode cX2_wrongInstruction 82 = .ok (.dup, 1) := by decide +kernel
theorem dX2_wrongInstruction_83 : decode cX2_wrongInstruction 83 = .ok (.getfield 108, 3) := by decide +kernel
theorem dX2_wrongInstruction_86 : decode cX2_wrongInstruction 86 = .ok (.iconst 1, 1) := by decide +kernel
theorem dX2_wrongInstruction_87 : decode cX2_wrongInstruction 87 = .ok (.iadd, 1) := by decide +kernel
theorem dX2_wrongInstruction_88 : decode cX2_wrongInstruction 88 = .ok (.putfield 108, 3) := by decide +kernel
theorem dX2_wrongInstruction_91 : decode cX2_wrongInstruction 91 = .ok (.iload_n 3, 1) := by decide +kernel
theorem dX2_wrongInstruction_92 : decode cX2_wrongInstruction 92 = .ok (.iload 4, 2) := by decide +kernel
theorem dX2_wrongInstruction_94 : decode cX2_wrongInstruction 94 = .ok (.iadd, 1) := by decide +kernel
theorem dX2_wrongInstruction_95 : decode cX2_wrongInstruction 95 = .ok (.istore_n 3, 1) := by decide +kernel
theorem dX2_wrongInstruction_96 : decode cX2_wrongInstruction 96 = .ok (.goto (-94), 3) := by decide +kernel
theorem dX2_wrongInstruction_99 : decode cX2_wrongInstruction 99 = .ok (.iconst (-1), 1) := by decide +kernel
theorem dX2_wrongInstruction_100 : decode cX2_wrongInstruction 100 = .ok (.ireturn, 1) := by decide +kernel
abbrev wcX2_wrongInstruction : List Cond := .code yX2_wrongInstruction cX2_wrongInstruction 6 (some .int) :: wsL_law
def jX2_wrongInstruction_91 (rec : Int32 → hs_S → Option (Nat × Int32 × hs_S)) (v0 : Nat) (v1 : Nat) (v2 : Nat) (v3 : Int32) (v4 : Int32) (g : hs_S) : Option (Nat × Int32 × hs_S) :=
  rec (v3 + v4) g
def jX2_wrongInstruction_38 (rec : Int32 → hs_S → Option (Nat × Int32 × hs_S)) (v0 : Nat) (v1 : Nat) (v2 : Nat) (v3 : Int32) (v4 : Int32) (s0 : Int32) (g : hs_S) : Option (Nat × Int32 × hs_S) :=
  if s0 = 0 then (
    some (1, v3, g)
  ) else (
    if hs_kd g v0 = 2 then
    hs_bd (fX2_hasOperand v0 v1 v2 v3 g) fun r7 g6 =>
    if r7 = 0 then (
      some (1, v3, g6)
    ) else (
      if hs_kd g6 v2 = 6 then
      hs_bv (fX7_mark v2 v3 (256 : Int32) g6) fun g10 =>
      if hs_kd g10 v2 = 6 then
      hs_bd (fX7_valueAt v2 v3 g10) fun r15 g14 =>
      if r15 = (168 : Int32) then (
        if hs_kd g14 v2 = 6 then
        jX2_wrongInstruction_91 rec v0 v1 v2 v3 v4 (hs_wI g14 v2 9 ((hs_I g14 v2 9) + (1 : Int32)))
        else none
      ) else (
        jX2_wrongInstruction_91 rec v0 v1 v2 v3 v4 g14
      )
      else none else none
    )
    else none
  )
def jX2_wrongInstruction_37 (rec : Int32 → hs_S → Option (Nat × Int32 × hs_S)) (v0 : Nat) (v1 : Nat) (v2 : Nat) (v3 : Int32) (v4 : Int32) (g : hs_S) : Option (Nat × Int32 × hs_S) :=
  jX2_wrongInstruction_38 rec v0 v1 v2 v3 v4 (0 : Int32) g
def lX2_wrongInstruction_2 : Nat → Nat → Nat → Nat → Int32 → hs_S → Option (Nat × Int32 × hs_S)
  | 0, _, _, _, _, _ => none
  | n + 1, v0, v1, v2, v3, g =>
    if hs_kd g v2 = 6 then
    if (hs_I g v2 3) ≤ v3 then (
      some (0, v3, g)
    ) else (
      hs_bd (fX7_sizeAt v2 v3 g) fun r3 g2 =>
      if r3 ≤ 0 then (
        jX2_wrongInstruction_37 (fun y0 g => lX2_wrongInstruction_2 n v0 v1 v2 y0 g) v0 v1 v2 v3 r3 g2
      ) else (
        if hs_kd g2 v2 = 6 then
        if (hs_I g2 v2 3) < (v3 + r3) then (
          jX2_wrongInstruction_37 (fun y0 g => lX2_wrongInstruction_2 n v0 v1 v2 y0 g) v0 v1 v2 v3 r3 g2
        ) else (
          jX2_wrongInstruction_38 (fun y0 g => lX2_wrongInstruction_2 n v0 v1 v2 y0 g) v0 v1 v2 v3 r3 (1 : Int32) g2
        )
        else none
      )
    )
    else none
theorem lX2_wrongInstruction_2_s (n : Nat) (v0 : Nat) (v1 : Nat) (v2 : Nat) (v3 : Int32) (g : hs_S) : lX2_wrongInstruction_2 (n + 1) v0 v1 v2 v3 g =
    if hs_kd g v2 = 6 then
    if (hs_I g v2 3) ≤ v3 then (
      some (0, v3, g)
    ) else (
      hs_bd (fX7_sizeAt v2 v3 g) fun r3 g2 =>
      if r3 ≤ 0 then (
        jX2_wrongInstruction_37 (fun y0 g => lX2_wrongInstruction_2 n v0 v1 v2 y0 g) v0 v1 v2 v3 r3 g2
      ) else (
        if hs_kd g2 v2 = 6 then
        if (hs_I g2 v2 3) < (v3 + r3) then (
          jX2_wrongInstruction_37 (fun y0 g => lX2_wrongInstruction_2 n v0 v1 v2 y0 g) v0 v1 v2 v3 r3 g2
        ) else (
          jX2_wrongInstruction_38 (fun y0 g => lX2_wrongInstruction_2 n v0 v1 v2 y0 g) v0 v1 v2 v3 r3 (1 : Int32) g2
        )
        else none
      )
    )
    else none := rfl
def jX2_wrongInstruction_55 (v2 : Nat) (v3 : Int32) (g : hs_S) : Option (Int32 × hs_S) :=
  if hs_kd g v2 = 6 then
  some (((hs_I g v2 2) + v3), g)
  else none
def fX2_wrongInstruction (v0 : Nat) (v1 : Nat) (v2 : Nat) (g : hs_S) : Option (Int32 × hs_S) :=
  hs_b3 (lX2_wrongInstruction_2 hs_N v0 v1 v2 (0 : Int32) g) fun k20 x19 g21 =>
  if k20 = 0 then (
    some ((-1 : Int32), g21)
  ) else (
    jX2_wrongInstruction_55 v2 x19 g21
  )
abbrev rmX2_wrongInstruction : Room := { frames := 3, cells := 0, slots := 0, locals := 67 }
set_option maxHeartbeats 4000000 in
set_option maxRecDepth 100000 in
theorem wX2_wrongInstruction_j91 {p : Program} {l : Launch} {e : Env} {s : State} {m : MethodId} {args : Array Value} {below : List Frame} {meth : Method} {c : Code} {B : Nat} {D : va_G} {E : Nat → ClassId} (hX : hs_cx cX2_wrongInstruction (some .int) 6 RX2 wcX2_wrongInstruction p s m args meth c D E) {Q : State → Prop} {o : Nat × Int32 × hs_S} {rec : Int32 → hs_S → Option (Nat × Int32 × hs_S)} {v0 : Nat} {v1 : Nat} {v2 : Nat} {v3 : Int32} {v4 : Int32}  (hrec : ∀ (y0 : Int32) (g : hs_S) (H : Heap) (locs : List Loc) (ls : Array Slot), rec y0 g = some o → hs_P B D E g H → hs_Sx B s.heap H locs → lv_has ls 6 [(0, .ref (B + v0)), (1, .ref (B + v1)), (2, .ref (B + v2)), (3, .int y0)] → W p l e rmX2_wrongInstruction s m args below meth c H locs 0 0 Q (F0 m 2 ls [])) (hex0 : o.1 = 0 → ∀ (H : Heap) (locs : List Loc) (ls : Array Slot), hs_P B D E (o.2.2) H → hs_Sx B s.heap H locs → lv_has ls 6 [] → W p l e rmX2_wrongInstruction s m args below meth c H locs 0 0 Q (F0 m 99 ls [])) (hex1 : o.1 = 1 → ∀ (H : Heap) (locs : List Loc) (ls : Array Slot), hs_P B D E (o.2.2) H → hs_Sx B s.heap H locs → lv_has ls 6 [(2, .ref (B + v2)), (3, .int (o.2.1))] → W p l e rmX2_wrongInstruction s m args below meth c H locs 0 0 Q (F0 m 55 ls [])) {g : hs_S} {H : Heap} {locs : List Loc} {ls : Array Slot} (hf : jX2_wrongInstruction_91 rec v0 v1 v2 v3 v4 g = some o) (hP : hs_P B D E g H) (hS : hs_Sx B s.heap H locs) (hl : lv_has ls 6 [(0, .ref (B + v0)), (1, .ref (B + v1)), (2, .ref (B + v2)), (3, .int v3), (4, .int v4)]) : W p l e rmX2_wrongInstruction s m args below meth c H locs 0 0 Q (F0 m 91 ls []) := by
  obtain ⟨hx, hb, hr, hml, hown, hts, hlocks, hK⟩ := id hX
  unfold jX2_wrongInstruction_91 at hf
  refine lv_iload_n hx hb dX2_wrongInstruction_91 rfl (lv_at hl 3 rfl) ?_
  refine lv_iload hx hb dX2_wrongInstruction_92 (lv_at hl 4 rfl) ?_
  refine lv_iadd hx hb dX2_wrongInstruction_94 ?_
  refine lv_istore_n (lv' := [(3, .int (v3 + v4)), (0, .ref (B + v0)), (1, .ref (B + v1)), (2, .ref (B + v2)), (4, .int v4)]) hx hb dX2_wrongInstruction_95 rfl hl (by decide) rfl (fun ls hl => ?_)
  refine lv_goto (tgt := 2) hx hb dX2_wrongInstruction_96 (by decide) ?_
  exact hrec _ _ _ _ _ hf hP hS (lv_sub hl [1, 2, 3, 0] rfl)

set_option maxHeartbeats 4000000 in
set_option maxRecDepth 100000 in
theorem wX2_wrongInstruction_j38 {p : Program} {l : Launch} {e : Env} {s : State} {m : MethodId} {args : Array Value} {below : List Frame} {meth : Method} {c : Code} {B : Nat} {D : va_G} {E : Nat → ClassId} (hX : hs_cx cX2_wrongInstruction (some .int) 6 RX2 wcX2_wrongInstruction p s m args meth c D E) {Q : State → Prop} {o : Nat × Int32 × hs_S} {rec : Int32 → hs_S → Option (Nat × Int32 × hs_S)} {v0 : Nat} {v1 : Nat} {v2 : Nat} {v3 : Int32} {v4 : Int32} {s0 : Int32}  (hrec : ∀ (y0 : Int32) (g : hs_S) (H : Heap) (locs : List Loc) (ls : Array Slot), rec y0 g = some o → hs_P B D E g H → hs_Sx B s.heap H locs → lv_has ls 6 [(0, .ref (B + v0)), (1, .ref (B + v1)), (2, .ref (B + v2)), (3, .int y0)] → W p l e rmX2_wrongInstruction s m args below meth c H locs 0 0 Q (F0 m 2 ls [])) (hex0 : o.1 = 0 → ∀ (H : Heap) (locs : List Loc) (ls : Array Slot), hs_P B D E (o.2.2) H → hs_Sx B s.heap H locs → lv_has ls 6 [] → W p l e rmX2_wrongInstruction s m args below meth c H locs 0 0 Q (F0 m 99 ls [])) (hex1 : o.1 = 1 → ∀ (H : Heap) (locs : List Loc) (ls : Array Slot), hs_P B D E (o.2.2) H → hs_Sx B s.heap H locs → lv_has ls 6 [(2, .ref (B + v2)), (3, .int (o.2.1))] → W p l e rmX2_wrongInstruction s m args below meth c H locs 0 0 Q (F0 m 55 ls [])) {g : hs_S} {H : Heap} {locs : List Loc} {ls : Array Slot} (hf : jX2_wrongInstruction_38 rec v0 v1 v2 v3 v4 s0 g = some o) (hP : hs_P B D E g H) (hS : hs_Sx B s.heap H locs) (hl : lv_has ls 6 [(0, .ref (B + v0)), (1, .ref (B + v1)), (2, .ref (B + v2)), (3, .int v3), (4, .int v4)]) : W p l e rmX2_wrongInstruction s m args below meth c H locs 0 0 Q (F0 m 38 ls [.int s0]) := by
  obtain ⟨hx, hb, hr, hml, hown, hts, hlocks, hK⟩ := id hX
  unfold jX2_wrongInstruction_38 at hf
  refine lv_istore (lv' := [(5, .int s0), (0, .ref (B + v0)), (1, .ref (B + v1)), (2, .ref (B + v2)), (3, .int v3), (4, .int v4)]) hx hb dX2_wrongInstruction_38 hl (by decide) rfl (fun ls hl => ?_)
  refine lv_iload hx hb dX2_wrongInstruction_40 (lv_at hl 0 rfl) ?_
  refine lv_if_eq (tgt := 55) hx hb dX2_wrongInstruction_42 (by decide) (fun hc => ?_) (fun hc => ?_)
  · replace hf := hs_t hf hc
    obtain rfl := Option.some.inj hf
    exact hex1 rfl _ _ _ hP hS (lv_sub hl [3, 4] rfl)
  · replace hf := hs_f hf hc
    refine lv_aload_n hx hb dX2_wrongInstruction_45 rfl (lv_at hl 1 rfl) ?_
    refine lv_aload_n hx hb dX2_wrongInstruction_46 rfl (lv_at hl 2 rfl) ?_
    refine lv_aload_n hx hb dX2_wrongInstruction_47 rfl (lv_at hl 3 rfl) ?_
    refine lv_iload_n hx hb dX2_wrongInstruction_48 rfl (lv_at hl 4 rfl) ?_
    obtain ⟨h5, hf⟩ := hs_ck hf
    obtain ⟨r7, g6, h8, hf⟩ := hs_bd_some hf
    refine hs_calli (va_runV (As := [.ref (B + v1), .ref (B + v2), .int v3]) (rest := []) ⟨hx, hb, hml, hown, hts⟩ (ctX2_hasOperand l B D E v0 v1 v2 v3 g _ h8) (cwV 3 hts (hs_gV (fun _ h => List.mem_cons_of_mem _ h) wq269 wq270 wq271 wq26 wq272) rfl rfl rfl (by decide +kernel) ⟨Nat.le_of_ble_eq_true rfl, Nat.le_of_ble_eq_true rfl⟩) (hs_preV (r := (RX2, TX2, 1)) hP hK h5 (by decide) rfl) rfl rfl hl.1 rfl (lv_room (Nat.le_of_ble_eq_true rfl)) dX2_wrongInstruction_49 ⟨(Nat.le_of_ble_eq_true rfl), (Nat.le_of_ble_eq_true rfl)⟩) hS (fun H locs hP hS => ?_)
    refine lv_if_ne (tgt := 62) hx hb dX2_wrongInstruction_52 (by decide) (fun hc => ?_) (fun hc => ?_)
    · replace hf := hs_f hf hc
      refine lv_aload_n hx hb dX2_wrongInstruction_62 rfl (lv_at hl 3 rfl) ?_
      refine lv_iload_n hx hb dX2_wrongInstruction_63 rfl (lv_at hl 4 rfl) ?_
      refine lv_sipush (v := 256) hx hb dX2_wrongInstruction_64 (by decide) ?_
      obtain ⟨h9, hf⟩ := hs_ck hf
      obtain ⟨g10, h12, hf⟩ := hs_bv_some hf
      refine hs_callv (va_runV (As := [.int v3, .int (256 : Int32)]) (rest := []) ⟨hx, hb, hml, hown, hts⟩ (ctX7_mark l B D E v2 v3 (256 : Int32) g6 _ h12) (cwV 2 hts (hs_gV (fun _ h => List.mem_cons_of_mem _ h) wq280 wq281 wq282 wq43 wq283) rfl rfl rfl (by decide +kernel) ⟨Nat.le_of_ble_eq_true rfl, Nat.le_of_ble_eq_true rfl⟩) (hs_preV (r := (RX7, TX7, 11)) hP hK h9 (by decide) rfl) rfl rfl hl.1 rfl (lv_room (Nat.le_of_ble_eq_true rfl)) dX2_wrongInstruction_67 ⟨(Nat.le_of_ble_eq_true rfl), (Nat.le_of_ble_eq_true rfl)⟩) hS (fun H locs hP hS => ?_)
      refine lv_aload_n hx hb dX2_wrongInstruction_70 rfl (lv_at hl 3 rfl) ?_
      refine lv_iload_n hx hb dX2_wrongInstruction_71 rfl (lv_at hl 4 rfl) ?_
      obtain ⟨h13, hf⟩ := hs_ck hf
      obtain ⟨r15, g14, h16, hf⟩ := hs_bd_some hf
      refine hs_calli (va_runV (As := [.int v3]) (rest := []) ⟨hx, hb, hml, hown, hts⟩ (ctX7_valueAt l B D E v2 v3 g10 _ h16) (cwV 1 hts (hs_gV (fun _ h => List.mem_cons_of_mem _ h) wq273 wq249 wq250 wq43 wq251) rfl rfl rfl (by decide +kernel) ⟨Nat.le_of_ble_eq_true rfl, Nat.le_of_ble_eq_true rfl⟩) (hs_preV (r := (RX7, TX7, 11)) hP hK h13 (by decide) rfl) rfl rfl hl.1 rfl (lv_room (Nat.le_of_ble_eq_true rfl)) dX2_wrongInstruction_72 ⟨(Nat.le_of_ble_eq_true rfl), (Nat.le_of_ble_eq_true rfl)⟩) hS (fun H locs hP hS => ?_)
      refine lv_sipush (v := 168) hx hb dX2_wrongInstruction_75 (by decide) ?_
      refine lv_icmp_ne (tgt := 91) hx hb dX2_wrongInstruction_78 (by decide) (fun hc => ?_) (fun hc => ?_)
      · replace hf := hs_f hf hc
        exact wX2_wrongInstruction_j91 hX hrec hex0 hex1 hf hP hS (lv_sub hl [1, 2, 3, 4, 5] rfl)
      · replace hf := hs_t hf hc
        refine lv_aload_n hx hb dX2_wrongInstruction_81 rfl (lv_at hl 3 rfl) ?_
        refine lv_dup hx hb dX2_wrongInstruction_82 rfl ?_
        obtain ⟨h17, hf⟩ := hs_ck hf
        refine hs_geti (C := RX7) (T := TX7) (N := 11) hx hb hts (fun w h => List.mem_cons_of_mem _ (inlX7 w h)) hown hK.1 hP h17 (by decide) rfl 9 (by decide) (hts _ (List.mem_cons_of_mem _ wq243)) (fun _ h => h) rfl dX2_wrongInstruction_83 ?_
        refine lv_iconst (v := 1) hx hb dX2_wrongInstruction_86 (by decide) ?_
        refine lv_iadd hx hb dX2_wrongInstruction_87 ?_
        refine hs_puti (C := RX7) (T := TX7) (N := 11) hx hb hts (fun w h => List.mem_cons_of_mem _ (inlX7 w h)) tyX7 tyX7_ok nmX7 hown hK.1 hP hS h17 (by decide) rfl 9 (by decide) (hts _ (List.mem_cons_of_mem _ wq243)) (fun _ h => h) (Or.inl rfl) rfl rfl rfl dX2_wrongInstruction_88 (fun H locs hP hS => ?_)
        exact wX2_wrongInstruction_j91 hX hrec hex0 hex1 hf hP hS (lv_sub hl [1, 2, 3, 4, 5] rfl)
    · replace hf := hs_t hf hc
      obtain rfl := Option.some.inj hf
      exact hex1 rfl _ _ _ hP hS (lv_sub hl [3, 4] rfl)

set_option maxHeartbeats 4000000 in
set_option maxRecDepth 100000 in
theorem wX2_wrongInstruction_j37 {p : Program} {l : Launch} {e : Env} {s : State} {m : MethodId} {args : Array Value} {below : List Frame} {meth : Method} {c : Code} {B : Nat} {D : va_G} {E : Nat → ClassId} (hX : hs_cx cX2_wrongInstruction (some .int) 6 RX2 wcX2_wrongInstruction p s m args meth c D E) {Q : State → Prop} {o : Nat × Int32 × hs_S} {rec : Int32 → hs_S → Option (Nat × Int32 × hs_S)} {v0 : Nat} {v1 : Nat} {v2 : Nat} {v3 : Int32} {v4 : Int32}  (hrec : ∀ (y0 : Int32) (g : hs_S) (H : Heap) (locs : List Loc) (ls : Array Slot), rec y0 g = some o → hs_P B D E g H → hs_Sx B s.heap H locs → lv_has ls 6 [(0, .ref (B + v0)), (1, .ref (B + v1)), (2, .ref (B + v2)), (3, .int y0)] → W p l e rmX2_wrongInstruction s m args below meth c H locs 0 0 Q (F0 m 2 ls [])) (hex0 : o.1 = 0 → ∀ (H : Heap) (locs : List Loc) (ls : Array Slot), hs_P B D E (o.2.2) H → hs_Sx B s.heap H locs → lv_has ls 6 [] → W p l e rmX2_wrongInstruction s m args below meth c H locs 0 0 Q (F0 m 99 ls [])) (hex1 : o.1 = 1 → ∀ (H : Heap) (locs : List Loc) (ls : Array Slot), hs_P B D E (o.2.2) H → hs_Sx B s.heap H locs → lv_has ls 6 [(2, .ref (B + v2)), (3, .int (o.2.1))] → W p l e rmX2_wrongInstruction s m args below meth c H locs 0 0 Q (F0 m 55 ls [])) {g : hs_S} {H : Heap} {locs : List Loc} {ls : Array Slot} (hf : jX2_wrongInstruction_37 rec v0 v1 v2 v3 v4 g = some o) (hP : hs_P B D E g H) (hS : hs_Sx B s.heap H locs) (hl : lv_has ls 6 [(0, .ref (B + v0)), (1, .ref (B + v1)), (2, .ref (B + v2)), (3, .int v3), (4, .int v4)]) : W p l e rmX2_wrongInstruction s m args below meth c H locs 0 0 Q (F0 m 37 ls []) := by
  obtain ⟨hx, hb, hr, hml, hown, hts, hlocks, hK⟩ := id hX
  unfold jX2_wrongInstruction_37 at hf
  refine lv_iconst (v := 0) hx hb dX2_wrongInstruction_37 (by decide) ?_
  exact wX2_wrongInstruction_j38 hX hrec hex0 hex1 hf hP hS (lv_sub hl [0, 1, 2, 3, 4] rfl)

set_option maxHeartbeats 4000000 in
set_option maxRecDepth 100000 in
theorem wX2_wrongInstruction_2 {p : Program} {l : Launch} {e : Env} {s : State} {m : MethodId} {args : Array Value} {below : List Frame} {meth : Method} {c : Code} {B : Nat} {D : va_G} {E : Nat → ClassId} (hX : hs_cx cX2_wrongInstruction (some .int) 6 RX2 wcX2_wrongInstruction p s m args meth c D E) {Q : State → Prop} {o : Nat × Int32 × hs_S} {v0 : Nat} {v1 : Nat} {v2 : Nat} (hex0 : o.1 = 0 → ∀ (H : Heap) (locs : List Loc) (ls : Array Slot), hs_P B D E (o.2.2) H → hs_Sx B s.heap H locs → lv_has ls 6 [] → W p l e rmX2_wrongInstruction s m args below meth c H locs 0 0 Q (F0 m 99 ls [])) (hex1 : o.1 = 1 → ∀ (H : Heap) (locs : List Loc) (ls : Array Slot), hs_P B D E (o.2.2) H → hs_Sx B s.heap H locs → lv_has ls 6 [(2, .ref (B + v2)), (3, .int (o.2.1))] → W p l e rmX2_wrongInstruction s m args below meth c H locs 0 0 Q (F0 m 55 ls [])) : ∀ (n : Nat) (v3 : Int32) (g : hs_S), lX2_wrongInstruction_2 n v0 v1 v2 v3 g = some o → ∀ (H : Heap) (locs : List Loc) (ls : Array Slot), hs_P B D E g H → hs_Sx B s.heap H locs → lv_has ls 6 [(0, .ref (B + v0)), (1, .ref (B + v1)), (2, .ref (B + v2)), (3, .int v3)] → W p l e rmX2_wrongInstruction s m args below meth c H locs 0 0 Q (F0 m 2 ls []) := by
  obtain ⟨hx, hb, hr, hml, hown, hts, hlocks, hK⟩ := id hX
  intro n
  induction n with
  | zero =>
    intro v3 g hf
    cases hf
  | succ n ih =>
    intro v3 g hf H locs ls hP hS hl
    replace hf := (lX2_wrongInstruction_2_s n v0 v1 v2 v3 g).symm.trans hf
    refine lv_iload_n hx hb dX2_wrongInstruction_2 rfl (lv_at hl 3 rfl) ?_
    refine lv_aload_n hx hb dX2_wrongInstruction_3 rfl (lv_at hl 2 rfl) ?_
    obtain ⟨h1, hf⟩ := hs_ck hf
    refine hs_geti (C := RX7) (T := TX7) (N := 11) hx hb hts (fun w h => List.mem_cons_of_mem _ (inlX7 w h)) hown hK.1 hP h1 (by decide) rfl 3 (by decide) (hts _ (List.mem_cons_of_mem _ wq219)) (fun _ h => h) rfl dX2_wrongInstruction_4 ?_
    refine lv_icmp_ge (tgt := 99) hx hb dX2_wrongInstruction_7 (by decide) (fun hc => ?_) (fun hc => ?_)
    · replace hf := hs_t hf hc
      obtain rfl := Option.some.inj hf
      exact hex0 rfl _ _ _ hP hS (lv_sub hl [] rfl)
    · replace hf := hs_f hf hc
      refine lv_aload_n hx hb dX2_wrongInstruction_10 rfl (lv_at hl 2 rfl) ?_
      refine lv_iload_n hx hb dX2_wrongInstruction_11 rfl (lv_at hl 3 rfl) ?_
      obtain ⟨r3, g2, h4, hf⟩ := hs_bd_some hf
      refine hs_calli (va_runV (As := [.int v3]) (rest := []) ⟨hx, hb, hml, hown, hts⟩ (ctX7_sizeAt l B D E v2 v3 g _ h4) (cwV 1 hts (hs_gV (fun _ h => List.mem_cons_of_mem _ h) wq244 wq245 wq246 wq43 wq247) rfl rfl rfl (by decide +kernel) ⟨Nat.le_of_ble_eq_true rfl, Nat.le_of_ble_eq_true rfl⟩) (hs_preV (r := (RX7, TX7, 11)) hP hK h1 (by decide) rfl) rfl rfl hl.1 rfl (lv_room (Nat.le_of_ble_eq_true rfl)) dX2_wrongInstruction_12 ⟨(Nat.le_of_ble_eq_true rfl), (Nat.le_of_ble_eq_true rfl)⟩) hS (fun H locs hP hS => ?_)
      refine lv_istore (lv' := [(4, .int r3), (0, .ref (B + v0)), (1, .ref (B + v1)), (2, .ref (B + v2)), (3, .int v3)]) hx hb dX2_wrongInstruction_15 hl (by decide) rfl (fun ls hl => ?_)
      refine lv_iload hx hb dX2_wrongInstruction_17 (lv_at hl 0 rfl) ?_
      refine lv_if_le (tgt := 37) hx hb dX2_wrongInstruction_19 (by decide) (fun hc => ?_) (fun hc => ?_)
      · replace hf := hs_t hf hc
        exact wX2_wrongInstruction_j37 hX (fun z0 g H locs ls hf hP hS hl => ih z0 g hf H locs ls hP hS hl) hex0 hex1 hf hP hS (lv_sub hl [1, 2, 3, 4, 0] rfl)
      · replace hf := hs_f hf hc
        refine lv_iload_n hx hb dX2_wrongInstruction_22 rfl (lv_at hl 4 rfl) ?_
        refine lv_iload hx hb dX2_wrongInstruction_23 (lv_at hl 0 rfl) ?_
        refine lv_iadd hx hb dX2_wrongInstruction_25 ?_
        refine lv_aload_n hx hb dX2_wrongInstruction_26 rfl (lv_at hl 3 rfl) ?_
        obtain ⟨h18, hf⟩ := hs_ck hf
        refine hs_geti (C := RX7) (T := TX7) (N := 11) hx hb hts (fun w h => List.mem_cons_of_mem _ (inlX7 w h)) hown hK.1 hP h18 (by decide) rfl 3 (by decide) (hts _ (List.mem_cons_of_mem _ wq219)) (fun _ h => h) rfl dX2_wrongInstruction_27 ?_
        refine lv_icmp_gt (tgt := 37) hx hb dX2_wrongInstruction_30 (by decide) (fun hc => ?_) (fun hc => ?_)
        · replace hf := hs_t hf hc
          exact wX2_wrongInstruction_j37 hX (fun z0 g H locs ls hf hP hS hl => ih z0 g hf H locs ls hP hS hl) hex0 hex1 hf hP hS (lv_sub hl [1, 2, 3, 4, 0] rfl)
        · replace hf := hs_f hf hc
          refine lv_iconst (v := 1) hx hb dX2_wrongInstruction_33 (by decide) ?_
          refine lv_goto (tgt := 38) hx hb dX2_wrongInstruction_34 (by decide) ?_
          exact wX2_wrongInstruction_j38 hX (fun z0 g H locs ls hf hP hS hl => ih z0 g hf H locs ls hP hS hl) hex0 hex1 hf hP hS (lv_sub hl [1, 2, 3, 4, 0] rfl)

set_option maxHeartbeats 4000000 in
set_option maxRecDepth 100000 in
theorem wX2_wrongInstruction_j55 {p : Program} {l : Launch} {e : Env} {s : State} {m : MethodId} {args : Array Value} {below : List Frame} {meth : Method} {c : Code} {B : Nat} {D : va_G} {E : Nat → ClassId} (hX : hs_cx cX2_wrongInstruction (some .int) 6 RX2 wcX2_wrongInstruction p s m args meth c D E) {o : Int32 × hs_S}  {v2 : Nat} {v3 : Int32}   {g : hs_S} {H : Heap} {locs : List Loc} {ls : Array Slot} (hf : jX2_wrongInstruction_55 v2 v3 g = some o) (hP : hs_P B D E g H) (hS : hs_Sx B s.heap H locs) (hl : lv_has ls 6 [(2, .ref (B + v2)), (3, .int v3)]) : W p l e rmX2_wrongInstruction s m args below meth c H locs 0 0 (MQ below (hs_Qi B D E o) args s 0 0 (hs_F B)) (F0 m 55 ls []) := by
  obtain ⟨hx, hb, hr, hml, hown, hts, hlocks, hK⟩ := id hX
  unfold jX2_wrongInstruction_55 at hf
  refine lv_aload_n hx hb dX2_wrongInstruction_55 rfl (lv_at hl 0 rfl) ?_
  obtain ⟨h23, hf⟩ := hs_ck hf
  refine hs_geti (C := RX7) (T := TX7) (N := 11) hx hb hts (fun w h => List.mem_cons_of_mem _ (inlX7 w h)) hown hK.1 hP h23 (by decide) rfl 2 (by decide) (hts _ (List.mem_cons_of_mem _ wq220)) (fun _ h => h) rfl dX2_wrongInstruction_56 ?_
  refine lv_iload_n hx hb dX2_wrongInstruction_59 rfl (lv_at hl 1 rfl) ?_
  refine lv_iadd hx hb dX2_wrongInstruction_60 ?_
  exact hs_iret hx hb hr hlocks rfl hK hP hS hf dX2_wrongInstruction_61

set_option maxHeartbeats 4000000 in
set_option maxRecDepth 100000 in
theorem ctX2_wrongInstruction (l : Launch) (B : Nat) (D : va_G) (E : Nat → ClassId) (v0 : Nat) (v1 : Nat) (v2 : Nat) (g : hs_S) (o : Int32 × hs_S) (hf : fX2_wrongInstruction v0 v1 v2 g = some o) : Met l yX2_wrongInstruction wcX2_wrongInstruction rmX2_wrongInstruction (hs_Pc B D E g [.ref (B + v0), .ref (B + v1), .ref (B + v2)]) (hs_Qi B D E o) (0) (0) (hs_F B) := by
  refine Met.ofW (cc := cX2_wrongInstruction) (maxL := 6) (ret := (some .int)) (by decide) rfl ?_
  intro p e s m args below meth c s₁ Bd hml hv
  obtain ⟨rfl, hP, hK⟩ := hv
  have hx := Bd.exec
  have hb := Bd.bytes
  have hr := Bd.returns
  have hts := atoms_spec (ws := wcX2_wrongInstruction) Bd.pre
  have hown : s.vm.findClass RX2 = some m.cls := findClass_of_methodNamed Bd.named
  have hlocks := Bd.notSynchronized
  have hS : hs_Sx B s.heap s.heap [] := va_S.rf
  have hX : hs_cx cX2_wrongInstruction (some .int) 6 RX2 wcX2_wrongInstruction p s m (List.toArray [.ref (B + v0), .ref (B + v1), .ref (B + v2)]) meth c D E := ⟨hx, hb, hr, hml, hown, hts, hlocks, hK⟩
  have hl := lv_entry ([.ref (B + v0), .ref (B + v1), .ref (B + v2)]) (n := 6) (Nat.le_of_ble_eq_true rfl)
  rw [lg_entry_eq]
  generalize (lg_sl ([.ref (B + v0), .ref (B + v1), .ref (B + v2)]) ++ List.replicate (6 - (lg_sl ([.ref (B + v0), .ref (B + v1), .ref (B + v2)])).length) Slot.unset).toArray = ls at hl ⊢
  have hl : lv_has ls 6 [(0, .ref (B + v0)), (1, .ref (B + v1)), (2, .ref (B + v2))] := hl
  have hP : hs_P B D E g s.heap := hP
  unfold fX2_wrongInstruction at hf
  refine lv_iconst (v := 0) hx hb dX2_wrongInstruction_0 (by decide) ?_
  refine lv_istore_n (lv' := [(3, .int (0 : Int32)), (0, .ref (B + v0)), (1, .ref (B + v1)), (2, .ref (B + v2))]) hx hb dX2_wrongInstruction_1 rfl hl (by decide) rfl (fun ls hl => ?_)
  obtain ⟨k20, x19, g21, h22, hf⟩ := hs_b3_some hf
  refine wX2_wrongInstruction_2 hX (fun hlab H locs ls hP hS hl => ?_) (fun hlab H locs ls hP hS hl => ?_) hs_N _ _ h22 _ _ _ hP hS (lv_sub hl [1, 2, 3, 0] rfl)
  · replace hlab : k20 = 0 := hlab
    replace hf := hs_t hf hlab
    refine lv_iconst (v := -1) hx hb dX2_wrongInstruction_99 (by decide) ?_
    exact hs_iret hx hb hr hlocks rfl hK hP hS hf dX2_wrongInstruction_100
  · replace hlab : k20 = 1 := hlab
    replace hf := hs_f hf (by rw [hlab]; decide)
    exact wX2_wrongInstruction_j55 hX hf hP hS (lv_sub hl [0, 1] rfl)

theorem dX7_begins_0 : decode cX7_begins 0 = .ok (.aload_n 0, 1) := by decide +kernel
theorem dX7_begins_1 : decode cX7_begins 1 = .ok (.iload_n 1, 1) := by decide +kernel
theorem dX7_begins_2 : decode cX7_begins 2 = .ok (.invokevirtual 46, 3) := by decide +kernel
theorem dX7_begins_5 : decode cX7_begins 5 = .ok (.ifCond .eq 25, 3) := by decide +kernel
theorem dX7_begins_8 : decode cX7_begins 8 = .ok (.aload_n 0, 1) := by decide +kernel
theorem dX7_begins_9 : decode cX7_begins 9 = .ok (.getfield 15, 3) := by decide +kernel
theorem dX7_begins_12 : decode cX7_begins 12 = .ok (.aload_n 0, 1) := by decide +kernel
theorem dX7_begins_13 : decode cX7_begins 13 = .ok (.getfield 18, 3) := by decide +kernel
theorem dX7_begins_16 : decode cX7_begins 16 = .ok (.iload_n 1, 1) := by decide +kernel
theorem dX7_begins_17 : decode cX7_begins 17 = .ok (.iadd, 1) := by decide +kernel
theorem dX7_begins_18 : decode cX7_begins 18 = .ok (.iaload, 1) := by decide +kernel
theorem dX7_begins_19 : decode cX7_begins 19 = .ok (.sipush 256, 3) := by decide +kernel
theorem dX7_begins_22 : decode cX7_begins 22 = .ok (.iand, 1) := by decide +kernel
theorem dX7_begins_23 : decode cX7_begins 23 = .ok (.ifCond .eq 7, 3) := by decide +kernel
theorem dX7_begins_26 : decode cX7_begins 26 = .ok (.iconst 1, 1) := by decide +kernel
theorem dX7_begins_27 : decode cX7_begins 27 = .ok (.goto 4, 3) := by decide +kernel
theorem dX7_begins_30 : decode cX7_begins 30 = .ok (.iconst 0, 1) := by decide +kernel
theorem dX7_begins_31 : decode cX7_begins 31 = .ok (.ireturn, 1) := by decide +kernel
abbrev wcX7_begins : List Cond := .code yX7_begins cX7_begins 2 (some .boolean) :: wsL_law
def fX7_begins (v0 : Nat) (v1 : Int32) (g : hs_S) : Option (Int32 × hs_S) :=
  if hs_kd g v0 = 6 then
  hs_bd (fX7_hasPlace v0 v1 g) fun r3 g2 =>
  if r3 = 0 then (
    some ((0 : Int32), g2)
  ) else (
    if hs_kd g2 v0 = 6 then
    if ¬ (hs_R g2 v0 0) = 0 then
    if hs_kd g2 ((hs_R g2 v0 0) - 1) = 100 then
    if hs_in ((hs_I g2 v0 2) + v1) (hs_ln g2 ((hs_R g2 v0 0) - 1)) = true then
    if ((hs_I g2 ((hs_R g2 v0 0) - 1) ((hs_I g2 v0 2) + v1).toNatClampNeg) &&& (256 : Int32)) = 0 then (
      some ((0 : Int32), g2)
    ) else (
      some ((1 : Int32), g2)
    )
    else none else none else none else none
  )
  else none
abbrev rmX7_begins : Room := { frames := 1, cells := 0, slots := 0, locals := 21 }
set_option maxHeartbeats 4000000 in
set_option maxRecDepth 100000 in
theorem ctX7_begins (l : Launch) (B : Nat) (D : va_G) (E : Nat → ClassId) (v0 : Nat) (v1 : Int32) (g : hs_S) (o : Int32 × hs_S) (hf : fX7_begins v0 v1 g = some o) : Met l yX7_begins wcX7_begins rmX7_begins (hs_Pc B D E g [.ref (B + v0), .int v1]) (hs_Qi B D E o) (0) (0) (hs_F B) := by
  refine Met.ofW (cc := cX7_begins) (maxL := 2) (ret := (some .boolean)) (by decide) rfl ?_
  intro p e s m args below meth c s₁ Bd hml hv
  obtain ⟨rfl, hP, hK⟩ := hv
  have hx := Bd.exec
  have hb := Bd.bytes
  have hr := Bd.returns
  have hts := atoms_spec (ws := wcX7_begins) Bd.pre
  have hown : s.vm.findClass RX7 = some m.cls := findClass_of_methodNamed Bd.named
  have hlocks := Bd.notSynchronized
  have hS : hs_Sx B s.heap s.heap [] := va_S.rf
  have hX : hs_cx cX7_begins (some .boolean) 2 RX7 wcX7_begins p s m (List.toArray [.ref (B + v0), .int v1]) meth c D E := ⟨hx, hb, hr, hml, hown, hts, hlocks, hK⟩
  have hl := lv_entry ([.ref (B + v0), .int v1]) (n := 2) (Nat.le_of_ble_eq_true rfl)
  rw [lg_entry_eq]
  generalize (lg_sl ([.ref (B + v0), .int v1]) ++ List.replicate (2 - (lg_sl ([.ref (B + v0), .int v1])).length) Slot.unset).toArray = ls at hl ⊢
  have hl : lv_has ls 2 [(0, .ref (B + v0)), (1, .int v1)] := hl
  have hP : hs_P B D E g s.heap := hP
  unfold fX7_begins at hf
  refine lv_aload_n hx hb dX7_begins_0 rfl (lv_at hl 0 rfl) ?_
  refine lv_iload_n hx hb dX7_begins_1 rfl (lv_at hl 1 rfl) ?_
  obtain ⟨h1, hf⟩ := hs_ck hf
  obtain ⟨r3, g2, h4, hf⟩ := hs_bd_some hf
  refine hs_calli (va_runV (As := [.int v1]) (rest := []) ⟨hx, hb, hml, hown, hts⟩ (ctX7_hasPlace l B D E v0 v1 g _ h4) (cwV 1 hts (hs_gV (fun _ h => List.mem_cons_of_mem _ h) wq252 wq253 wq254 wq43 wq255) rfl rfl rfl (by decide +kernel) ⟨Nat.le_of_ble_eq_true rfl, Nat.le_of_ble_eq_true rfl⟩) (hs_preV (r := (RX7, TX7, 11)) hP hK h1 (by decide) rfl) rfl rfl hl.1 rfl (lv_room (Nat.le_of_ble_eq_true rfl)) dX7_begins_2 ⟨(Nat.le_of_ble_eq_true rfl), (Nat.le_of_ble_eq_true rfl)⟩) hS (fun H locs hP hS => ?_)
  refine lv_if_eq (tgt := 30) hx hb dX7_begins_5 (by decide) (fun hc => ?_) (fun hc => ?_)
  · replace hf := hs_t hf hc
    refine lv_iconst (v := 0) hx hb dX7_begins_30 (by decide) ?_
    exact hs_iret hx hb hr hlocks (hs_01_nar (rfl)) hK hP hS hf dX7_begins_31
  · replace hf := hs_f hf hc
    refine lv_aload_n hx hb dX7_begins_8 rfl (lv_at hl 0 rfl) ?_
    obtain ⟨h5, hf⟩ := hs_ck hf
    obtain ⟨h6, hf⟩ := hs_ck hf
    refine hs_getr (C := RX7) (T := TX7) (N := 11) hx hb hts (fun w h => List.mem_cons_of_mem _ (inlX7 w h)) hown hK.1 hP h5 (by decide) rfl 0 (by decide) (hts _ (List.mem_cons_of_mem _ wq52)) (fun _ h => h) rfl h6 dX7_begins_9 ?_
    refine lv_aload_n hx hb dX7_begins_12 rfl (lv_at hl 0 rfl) ?_
    refine hs_geti (C := RX7) (T := TX7) (N := 11) hx hb hts (fun w h => List.mem_cons_of_mem _ (inlX7 w h)) hown hK.1 hP h5 (by decide) rfl 2 (by decide) (hts _ (List.mem_cons_of_mem _ wq204)) (fun _ h => h) rfl dX7_begins_13 ?_
    refine lv_iload_n hx hb dX7_begins_16 rfl (lv_at hl 1 rfl) ?_
    refine lv_iadd hx hb dX7_begins_17 ?_
    obtain ⟨h7, hf⟩ := hs_ck hf
    obtain ⟨h8, hf⟩ := hs_ck hf
    refine hs_iald hx hb hK.1 hP h7 h8 dX7_begins_18 ?_
    refine lv_sipush (v := 256) hx hb dX7_begins_19 (by decide) ?_
    refine lv_iand hx hb dX7_begins_22 ?_
    refine lv_if_eq (tgt := 30) hx hb dX7_begins_23 (by decide) (fun hc => ?_) (fun hc => ?_)
    · replace hf := hs_t hf hc
      refine lv_iconst (v := 0) hx hb dX7_begins_30 (by decide) ?_
      exact hs_iret hx hb hr hlocks (hs_01_nar (rfl)) hK hP hS hf dX7_begins_31
    · replace hf := hs_f hf hc
      refine lv_iconst (v := 1) hx hb dX7_begins_26 (by decide) ?_
      refine lv_goto (tgt := 31) hx hb dX7_begins_27 (by decide) ?_
      exact hs_iret hx hb hr hlocks (hs_01_nar (rfl)) hK hP hS hf dX7_begins_31

theorem dX7_setHandlerNumber_0 : decode cX7_setHandlerNumber 0 = .ok (.aload_n 0, 1) := by decide +kernel
theorem dX7_setHandlerNumber_1 : decode cX7_setHandlerNumber 1 = .ok (.getfield 9, 3) := by decide +kernel
theorem dX7_setHandlerNumber_4 : decode cX7_setHandlerNumber 4 = .ok (.iload_n 1, 1) := by decide +kernel
theorem dX7_setHandlerNumber_5 : decode cX7_setHandlerNumber 5 = .ok (.iconst 4, 1) := by decide +kernel
theorem dX7_setHandlerNumber_6 : decode cX7_setHandlerNumber 6 = .ok (.imul, 1) := by decide +kernel
theorem dX7_setHandlerNumber_7 : decode cX7_setHandlerNumber 7 = .ok (.iload_n 2, 1) := by decide +kernel
theorem dX7_setHandlerNumber_8 : decode cX7_setHandlerNumber 8 = .ok (.iadd, 1) := by decide +kernel
theorem dX7_setHandlerNumber_9 : decode cX7_setHandlerNumber 9 = .ok (.iload_n 3, 1) := by decide +kernel
theorem dX7_setHandlerNumber_10 : decode cX7_setHandlerNumber 10 = .ok (.invokestatic 74, 3) := by decide +kernel
theorem dX7_setHandlerNumber_13 : decode cX7_setHandlerNumber 13 = .ok (.return_, 1) := by decide +kernel
abbrev wcX7_setHandlerNumber : List Cond := .code yX7_setHandlerNumber cX7_setHandlerNumber 4 none :: wsL_law
def fX7_setHandlerNumber (v0 : Nat) (v1 : Int32) (v2 : Int32) (v3 : Int32) (g : hs_S) : Option (hs_S) :=
  if hs_kd g v0 = 6 then
  if ¬ (hs_R g v0 1) = 0 then
  hs_bv (fX9_put ((hs_R g v0 1) - 1) ((v1 * (4 : Int32)) + v2) v3 g) fun g3 =>
  some g3
  else none else none
abbrev rmX7_setHandlerNumber : Room := { frames := 1, cells := 0, slots := 0, locals := 22 }
set_option maxHeartbeats 4000000 in
set_option maxRecDepth 100000 in
theorem ctX7_setHandlerNumber (l : Launch) (B : Nat) (D : va_G) (E : Nat → ClassId) (v0 : Nat) (v1 : Int32) (v2 : Int32) (v3 : Int32) (g : hs_S) (o : hs_S) (hf : fX7_setHandlerNumber v0 v1 v2 v3 g = some o) : Met l yX7_setHandlerNumber wcX7_setHandlerNumber rmX7_setHandlerNumber (hs_Pc B D E g [.ref (B + v0), .int v1, .int v2, .int v3]) (hs_Qv B D E o) (0) (0) (hs_F B) := by
  refine Met.ofW (cc := cX7_setHandlerNumber) (maxL := 4) (ret := none) (by decide) rfl ?_
  intro p e s m args below meth c s₁ Bd hml hv
  obtain ⟨rfl, hP, hK⟩ := hv
  have hx := Bd.exec
  have hb := Bd.bytes
  have hr := Bd.returns
  have hts := atoms_spec (ws := wcX7_setHandlerNumber) Bd.pre
  have hown : s.vm.findClass RX7 = some m.cls := findClass_of_methodNamed Bd.named
  have hlocks := Bd.notSynchronized
  have hS : hs_Sx B s.heap s.heap [] := va_S.rf
  have hX : hs_cx cX7_setHandlerNumber none 4 RX7 wcX7_setHandlerNumber p s m (List.toArray [.ref (B + v0), .int v1, .int v2, .int v3]) meth c D E := ⟨hx, hb, hr, hml, hown, hts, hlocks, hK⟩
  have hl := lv_entry ([.ref (B + v0), .int v1, .int v2, .int v3]) (n := 4) (Nat.le_of_ble_eq_true rfl)
  rw [lg_entry_eq]
  generalize (lg_sl ([.ref (B + v0), .int v1, .int v2, .int v3]) ++ List.replicate (4 - (lg_sl ([.ref (B + v0), .int v1, .int v2, .int v3])).length) Slot.unset).toArray = ls at hl ⊢
  have hl : lv_has ls 4 [(0, .ref (B + v0)), (1, .int v1), (2, .int v2), (3, .int v3)] := hl
  have hP : hs_P B D E g s.heap := hP
  unfold fX7_setHandlerNumber at hf
  refine lv_aload_n hx hb dX7_setHandlerNumber_0 rfl (lv_at hl 0 rfl) ?_
  obtain ⟨h1, hf⟩ := hs_ck hf
  obtain ⟨h2, hf⟩ := hs_ck hf
  refine hs_getr (C := RX7) (T := TX7) (N := 11) hx hb hts (fun w h => List.mem_cons_of_mem _ (inlX7 w h)) hown hK.1 hP h1 (by decide) rfl 1 (by decide) (hts _ (List.mem_cons_of_mem _ wq51)) (fun _ h => h) rfl h2 dX7_setHandlerNumber_1 ?_
  refine lv_iload_n hx hb dX7_setHandlerNumber_4 rfl (lv_at hl 1 rfl) ?_
  refine lv_iconst (v := 4) hx hb dX7_setHandlerNumber_5 (by decide) ?_
  refine lv_imul hx hb dX7_setHandlerNumber_6 ?_
  refine lv_iload_n hx hb dX7_setHandlerNumber_7 rfl (lv_at hl 2 rfl) ?_
  refine lv_iadd hx hb dX7_setHandlerNumber_8 ?_
  refine lv_iload_n hx hb dX7_setHandlerNumber_9 rfl (lv_at hl 3 rfl) ?_
  obtain ⟨g3, h5, hf⟩ := hs_bv_some hf
  refine hs_callv (va_runS (As := [.ref (B + ((hs_R g v0 1) - 1)), .int ((v1 * (4 : Int32)) + v2), .int v3]) (rest := []) ⟨hx, hb, hml, hown, hts⟩ (ctX9_put l B D E ((hs_R g v0 1) - 1) ((v1 * (4 : Int32)) + v2) v3 g _ h5) (va_cwS 3 hts (hs_gS (fun _ h => List.mem_cons_of_mem _ h) wq296 wq67 wq68 wq69) rfl rfl rfl (by decide +kernel) ⟨Nat.le_of_ble_eq_true rfl, Nat.le_of_ble_eq_true rfl⟩) (hs_pre hP hK) rfl rfl hl.1 rfl (lv_room (Nat.le_of_ble_eq_true rfl)) dX7_setHandlerNumber_10 ⟨(Nat.le_of_ble_eq_true rfl), (Nat.le_of_ble_eq_true rfl)⟩) hS (fun H locs hP hS => ?_)
  exact hs_vret hx hb hr hlocks hK hP hS hf dX7_setHandlerNumber_13

