theorem dX0_empty_0 : decode cX0_empty 0 = .ok (.aload_n 0, 1) := by decide +kernel
theorem dX0_empty_1 : decode cX0_empty 1 = .ok (.iconst 0, 1) := by decide +kernel
theorem dX0_empty_2 : decode cX0_empty 2 = .ok (.putfield 28, 3) := by decide +kernel
theorem dX0_empty_5 : decode cX0_empty 5 = .ok (.aload_n 0, 1) := by decide +kernel
theorem dX0_empty_6 : decode cX0_empty 6 = .ok (.iconst 0, 1) := by decide +kernel
theorem dX0_empty_7 : decode cX0_empty 7 = .ok (.putfield 32, 3) := by decide +kernel
theorem dX0_empty_10 : decode cX0_empty 10 = .ok (.return_, 1) := by decide +kernel
abbrev wcX0_empty : List Cond := .code yX0_empty cX0_empty 1 none :: wsL_law
def fX0_empty (v0 : Nat) (g : hs_S) : Option (hs_S) :=
  if hs_kd g v0 = 0 then
  some (hs_wI (hs_wI g v0 3 (0 : Int32)) v0 4 (0 : Int32))
  else none
abbrev rmX0_empty : Room := { frames := 0, cells := 0, slots := 0, locals := 0 }
set_option maxHeartbeats 4000000 in
set_option maxRecDepth 100000 in
theorem ctX0_empty (l : Launch) (B : Nat) (D : va_G) (E : Nat → ClassId) (v0 : Nat) (g : hs_S) (o : hs_S) (hf : fX0_empty v0 g = some o) : Met l yX0_empty wcX0_empty rmX0_empty (hs_Pc B D E g [.ref (B + v0)]) (hs_Qv B D E o) (0) (0) (hs_F B) := by
  refine Met.ofW (cc := cX0_empty) (maxL := 1) (ret := none) (by decide) rfl ?_
  intro p e s m args below meth c s₁ Bd hml hv
  obtain ⟨rfl, hP, hK⟩ := hv
  have hx := Bd.exec
  have hb := Bd.bytes
  have hr := Bd.returns
  have hts := atoms_spec (ws := wcX0_empty) Bd.pre
  have hown : s.vm.findClass RX0 = some m.cls := findClass_of_methodNamed Bd.named
  have hlocks := Bd.notSynchronized
  have hS : hs_Sx B s.heap s.heap [] := va_S.rf
  have hX : hs_cx cX0_empty none 1 RX0 wcX0_empty p s m (List.toArray [.ref (B + v0)]) meth c D E := ⟨hx, hb, hr, hml, hown, hts, hlocks, hK⟩
  have hl := lv_entry ([.ref (B + v0)]) (n := 1) (Nat.le_of_ble_eq_true rfl)
  rw [lg_entry_eq]
  generalize (lg_sl ([.ref (B + v0)]) ++ List.replicate (1 - (lg_sl ([.ref (B + v0)])).length) Slot.unset).toArray = ls at hl ⊢
  have hl : lv_has ls 1 [(0, .ref (B + v0))] := hl
  have hP : hs_P B D E g s.heap := hP
  unfold fX0_empty at hf
  refine lv_aload_n hx hb dX0_empty_0 rfl (lv_at hl 0 rfl) ?_
  refine lv_iconst (v := 0) hx hb dX0_empty_1 (by decide) ?_
  obtain ⟨h1, hf⟩ := hs_ck hf
  refine hs_puti (C := RX0) (T := TX0) (N := 5) hx hb hts (fun w h => List.mem_cons_of_mem _ (inlX0 w h)) tyX0 tyX0_ok nmX0 hown hK.1 hP hS h1 (by decide) rfl 3 (by decide) (hts _ (List.mem_cons_of_mem _ wq170)) (fun _ h => h) (Or.inl rfl) rfl rfl rfl dX0_empty_2 (fun H locs hP hS => ?_)
  refine lv_aload_n hx hb dX0_empty_5 rfl (lv_at hl 0 rfl) ?_
  refine lv_iconst (v := 0) hx hb dX0_empty_6 (by decide) ?_
  refine hs_puti (C := RX0) (T := TX0) (N := 5) hx hb hts (fun w h => List.mem_cons_of_mem _ (inlX0 w h)) tyX0 tyX0_ok nmX0 hown hK.1 hP hS h1 (by decide) rfl 4 (by decide) (hts _ (List.mem_cons_of_mem _ wq278)) (fun _ h => h) (Or.inl rfl) rfl rfl rfl dX0_empty_7 (fun H locs hP hS => ?_)
  exact hs_vret hx hb hr hlocks hK hP hS hf dX0_empty_10

theorem dX0_append_0 : decode cX0_append 0 = .ok (.aload_n 0, 1) := by decide +kernel
theorem dX0_append_1 : decode cX0_append 1 = .ok (.getfield 28, 3) := by decide +kernel
theorem dX0_append_4 : decode cX0_append 4 = .ok (.aload_n 0, 1) := by decide +kernel
theorem dX0_append_5 : decode cX0_append 5 = .ok (.getfield 24, 3) := by decide +kernel
theorem dX0_append_8 : decode cX0_append 8 = .ok (.arraylength, 1) := by decide +kernel
theorem dX0_append_9 : decode cX0_append 9 = .ok (.if_icmp .ge 29, 3) := by decide +kernel
theorem dX0_append_12 : decode cX0_append 12 = .ok (.aload_n 0, 1) := by decide +kernel
theorem dX0_append_13 : decode cX0_append 13 = .ok (.getfield 24, 3) := by decide +kernel
theorem dX0_append_16 : decode cX0_append 16 = .ok (.aload_n 0, 1) := by decide +kernel
theorem dX0_append_17 : decode cX0_append 17 = .ok (.getfield 28, 3) := by decide +kernel
theorem dX0_append_20 : decode cX0_append 20 = .ok (.iload_n 1, 1) := by decide +kernel
theorem dX0_append_21 : decode cX0_append 21 = .ok (.sipush 255, 3) := by decide +kernel
theorem dX0_append_24 : decode cX0_append 24 = .ok (.iand, 1) := by decide +kernel
theorem dX0_append_25 : decode cX0_append 25 = .ok (.invokestatic 35, 3) := by decide +kernel
theorem dX0_append_28 : decode cX0_append 28 = .ok (.aload_n 0, 1) := by decide +kernel
theorem dX0_append_29 : decode cX0_append 29 = .ok (.dup, 1) := by decide +kernel
theorem dX0_append_30 : decode cX0_append 30 = .ok (.getfield 28, 3) := by decide +kernel
theorem dX0_append_33 : decode cX0_append 33 = .ok (.iconst 1, 1) := by decide +kernel
theorem dX0_append_34 : decode cX0_append 34 = .ok (.iadd, 1) := by decide +kernel
theorem dX0_append_35 : decode cX0_append 35 = .ok (.putfield 28, 3) := by decide +kernel
theorem dX0_append_38 : decode cX0_append 38 = .ok (.return_, 1) := by decide +kernel
abbrev wcX0_append : List Cond := .code yX0_append cX0_append 2 none :: wsL_law
def fX0_append (v0 : Nat) (v1 : Int32) (g : hs_S) : Option (hs_S) :=
  if hs_kd g v0 = 0 then
  if ¬ (hs_R g v0 0) = 0 then
  if hs_kd g ((hs_R g v0 0) - 1) = 100 then
  if (Int32.ofNat (hs_ln g ((hs_R g v0 0) - 1))) ≤ (hs_I g v0 3) then (
    some g
  ) else (
    hs_bv (fX9_put ((hs_R g v0 0) - 1) (hs_I g v0 3) (v1 &&& (255 : Int32)) g) fun g4 =>
    if hs_kd g4 v0 = 0 then
    some (hs_wI g4 v0 3 ((hs_I g4 v0 3) + (1 : Int32)))
    else none
  )
  else none else none else none
abbrev rmX0_append : Room := { frames := 1, cells := 0, slots := 0, locals := 22 }
set_option maxHeartbeats 4000000 in
set_option maxRecDepth 100000 in
theorem ctX0_append (l : Launch) (B : Nat) (D : va_G) (E : Nat → ClassId) (v0 : Nat) (v1 : Int32) (g : hs_S) (o : hs_S) (hf : fX0_append v0 v1 g = some o) : Met l yX0_append wcX0_append rmX0_append (hs_Pc B D E g [.ref (B + v0), .int v1]) (hs_Qv B D E o) (0) (0) (hs_F B) := by
  refine Met.ofW (cc := cX0_append) (maxL := 2) (ret := none) (by decide) rfl ?_
  intro p e s m args below meth c s₁ Bd hml hv
  obtain ⟨rfl, hP, hK⟩ := hv
  have hx := Bd.exec
  have hb := Bd.bytes
  have hr := Bd.returns
  have hts := atoms_spec (ws := wcX0_append) Bd.pre
  have hown : s.vm.findClass RX0 = some m.cls := findClass_of_methodNamed Bd.named
  have hlocks := Bd.notSynchronized
  have hS : hs_Sx B s.heap s.heap [] := va_S.rf
  have hX : hs_cx cX0_append none 2 RX0 wcX0_append p s m (List.toArray [.ref (B + v0), .int v1]) meth c D E := ⟨hx, hb, hr, hml, hown, hts, hlocks, hK⟩
  have hl := lv_entry ([.ref (B + v0), .int v1]) (n := 2) (Nat.le_of_ble_eq_true rfl)
  rw [lg_entry_eq]
  generalize (lg_sl ([.ref (B + v0), .int v1]) ++ List.replicate (2 - (lg_sl ([.ref (B + v0), .int v1])).length) Slot.unset).toArray = ls at hl ⊢
  have hl : lv_has ls 2 [(0, .ref (B + v0)), (1, .int v1)] := hl
  have hP : hs_P B D E g s.heap := hP
  unfold fX0_append at hf
  refine lv_aload_n hx hb dX0_append_0 rfl (lv_at hl 0 rfl) ?_
  obtain ⟨h1, hf⟩ := hs_ck hf
  refine hs_geti (C := RX0) (T := TX0) (N := 5) hx hb hts (fun w h => List.mem_cons_of_mem _ (inlX0 w h)) hown hK.1 hP h1 (by decide) rfl 3 (by decide) (hts _ (List.mem_cons_of_mem _ wq170)) (fun _ h => h) rfl dX0_append_1 ?_
  refine lv_aload_n hx hb dX0_append_4 rfl (lv_at hl 0 rfl) ?_
  obtain ⟨h2, hf⟩ := hs_ck hf
  refine hs_getr (C := RX0) (T := TX0) (N := 5) hx hb hts (fun w h => List.mem_cons_of_mem _ (inlX0 w h)) hown hK.1 hP h1 (by decide) rfl 0 (by decide) (hts _ (List.mem_cons_of_mem _ wq46)) (fun _ h => h) rfl h2 dX0_append_5 ?_
  obtain ⟨h3, hf⟩ := hs_ck hf
  refine hs_alen (t := 0) hx hb hK.1 hP h3 (by decide) dX0_append_8 ?_
  refine lv_icmp_ge (tgt := 38) hx hb dX0_append_9 (by decide) (fun hc => ?_) (fun hc => ?_)
  · replace hf := hs_t hf hc
    exact hs_vret hx hb hr hlocks hK hP hS hf dX0_append_38
  · replace hf := hs_f hf hc
    refine lv_aload_n hx hb dX0_append_12 rfl (lv_at hl 0 rfl) ?_
    refine hs_getr (C := RX0) (T := TX0) (N := 5) hx hb hts (fun w h => List.mem_cons_of_mem _ (inlX0 w h)) hown hK.1 hP h1 (by decide) rfl 0 (by decide) (hts _ (List.mem_cons_of_mem _ wq46)) (fun _ h => h) rfl h2 dX0_append_13 ?_
    refine lv_aload_n hx hb dX0_append_16 rfl (lv_at hl 0 rfl) ?_
    refine hs_geti (C := RX0) (T := TX0) (N := 5) hx hb hts (fun w h => List.mem_cons_of_mem _ (inlX0 w h)) hown hK.1 hP h1 (by decide) rfl 3 (by decide) (hts _ (List.mem_cons_of_mem _ wq170)) (fun _ h => h) rfl dX0_append_17 ?_
    refine lv_iload_n hx hb dX0_append_20 rfl (lv_at hl 1 rfl) ?_
    refine lv_sipush (v := 255) hx hb dX0_append_21 (by decide) ?_
    refine lv_iand hx hb dX0_append_24 ?_
    obtain ⟨g4, h6, hf⟩ := hs_bv_some hf
    refine hs_callv (va_runS (As := [.ref (B + ((hs_R g v0 0) - 1)), .int (hs_I g v0 3), .int (v1 &&& (255 : Int32))]) (rest := []) ⟨hx, hb, hml, hown, hts⟩ (ctX9_put l B D E ((hs_R g v0 0) - 1) (hs_I g v0 3) (v1 &&& (255 : Int32)) g _ h6) (va_cwS 3 hts (hs_gS (fun _ h => List.mem_cons_of_mem _ h) wq171 wq67 wq68 wq69) rfl rfl rfl (by decide +kernel) ⟨Nat.le_of_ble_eq_true rfl, Nat.le_of_ble_eq_true rfl⟩) (hs_pre hP hK) rfl rfl hl.1 rfl (lv_room (Nat.le_of_ble_eq_true rfl)) dX0_append_25 ⟨(Nat.le_of_ble_eq_true rfl), (Nat.le_of_ble_eq_true rfl)⟩) hS (fun H locs hP hS => ?_)
    refine lv_aload_n hx hb dX0_append_28 rfl (lv_at hl 0 rfl) ?_
    refine lv_dup hx hb dX0_append_29 rfl ?_
    obtain ⟨h7, hf⟩ := hs_ck hf
    refine hs_geti (C := RX0) (T := TX0) (N := 5) hx hb hts (fun w h => List.mem_cons_of_mem _ (inlX0 w h)) hown hK.1 hP h7 (by decide) rfl 3 (by decide) (hts _ (List.mem_cons_of_mem _ wq170)) (fun _ h => h) rfl dX0_append_30 ?_
    refine lv_iconst (v := 1) hx hb dX0_append_33 (by decide) ?_
    refine lv_iadd hx hb dX0_append_34 ?_
    refine hs_puti (C := RX0) (T := TX0) (N := 5) hx hb hts (fun w h => List.mem_cons_of_mem _ (inlX0 w h)) tyX0 tyX0_ok nmX0 hown hK.1 hP hS h7 (by decide) rfl 3 (by decide) (hts _ (List.mem_cons_of_mem _ wq170)) (fun _ h => h) (Or.inl rfl) rfl rfl rfl dX0_append_35 (fun H locs hP hS => ?_)
    exact hs_vret hx hb hr hlocks hK hP hS hf dX0_append_38

theorem dX0_valueAt_0 : decode cX0_valueAt 0 = .ok (.iload_n 1, 1) := by decide +kernel
theorem dX0_valueAt_1 : decode cX0_valueAt 1 = .ok (.aload_n 0, 1) := by decide +kernel
theorem dX0_valueAt_2 : decode cX0_valueAt 2 = .ok (.getfield 28, 3) := by decide +kernel
theorem dX0_valueAt_5 : decode cX0_valueAt 5 = .ok (.if_icmp .ge 18, 3) := by decide +kernel
theorem dX0_valueAt_8 : decode cX0_valueAt 8 = .ok (.aload_n 0, 1) := by decide +kernel
theorem dX0_valueAt_9 : decode cX0_valueAt 9 = .ok (.getfield 24, 3) := by decide +kernel
theorem dX0_valueAt_12 : decode cX0_valueAt 12 = .ok (.iload_n 1, 1) := by decide +kernel
theorem dX0_valueAt_13 : decode cX0_valueAt 13 = .ok (.invokestatic 45, 3) := by decide +kernel
theorem dX0_valueAt_16 : decode cX0_valueAt 16 = .ok (.sipush 255, 3) := by decide +kernel
theorem dX0_valueAt_19 : decode cX0_valueAt 19 = .ok (.iand, 1) := by decide +kernel
theorem dX0_valueAt_20 : decode cX0_valueAt 20 = .ok (.goto 4, 3) := by decide +kernel
theorem dX0_valueAt_23 : decode cX0_valueAt 23 = .ok (.iconst 0, 1) := by decide +kernel
theorem dX0_valueAt_24 : decode cX0_valueAt 24 = .ok (.ireturn, 1) := by decide +kernel
abbrev wcX0_valueAt : List Cond := .code yX0_valueAt cX0_valueAt 2 (some .int) :: wsL_law
def fX0_valueAt (v0 : Nat) (v1 : Int32) (g : hs_S) : Option (Int32 × hs_S) :=
  if hs_kd g v0 = 0 then
  if (hs_I g v0 3) ≤ v1 then (
    some ((0 : Int32), g)
  ) else (
    if ¬ (hs_R g v0 0) = 0 then
    hs_bd (fX9_at ((hs_R g v0 0) - 1) v1 g) fun r4 g3 =>
    some ((r4 &&& (255 : Int32)), g3)
    else none
  )
  else none
abbrev rmX0_valueAt : Room := { frames := 1, cells := 0, slots := 0, locals := 21 }
set_option maxHeartbeats 4000000 in
set_option maxRecDepth 100000 in
theorem ctX0_valueAt (l : Launch) (B : Nat) (D : va_G) (E : Nat → ClassId) (v0 : Nat) (v1 : Int32) (g : hs_S) (o : Int32 × hs_S) (hf : fX0_valueAt v0 v1 g = some o) : Met l yX0_valueAt wcX0_valueAt rmX0_valueAt (hs_Pc B D E g [.ref (B + v0), .int v1]) (hs_Qi B D E o) (0) (0) (hs_F B) := by
  refine Met.ofW (cc := cX0_valueAt) (maxL := 2) (ret := (some .int)) (by decide) rfl ?_
  intro p e s m args below meth c s₁ Bd hml hv
  obtain ⟨rfl, hP, hK⟩ := hv
  have hx := Bd.exec
  have hb := Bd.bytes
  have hr := Bd.returns
  have hts := atoms_spec (ws := wcX0_valueAt) Bd.pre
  have hown : s.vm.findClass RX0 = some m.cls := findClass_of_methodNamed Bd.named
  have hlocks := Bd.notSynchronized
  have hS : hs_Sx B s.heap s.heap [] := va_S.rf
  have hX : hs_cx cX0_valueAt (some .int) 2 RX0 wcX0_valueAt p s m (List.toArray [.ref (B + v0), .int v1]) meth c D E := ⟨hx, hb, hr, hml, hown, hts, hlocks, hK⟩
  have hl := lv_entry ([.ref (B + v0), .int v1]) (n := 2) (Nat.le_of_ble_eq_true rfl)
  rw [lg_entry_eq]
  generalize (lg_sl ([.ref (B + v0), .int v1]) ++ List.replicate (2 - (lg_sl ([.ref (B + v0), .int v1])).length) Slot.unset).toArray = ls at hl ⊢
  have hl : lv_has ls 2 [(0, .ref (B + v0)), (1, .int v1)] := hl
  have hP : hs_P B D E g s.heap := hP
  unfold fX0_valueAt at hf
  refine lv_iload_n hx hb dX0_valueAt_0 rfl (lv_at hl 1 rfl) ?_
  refine lv_aload_n hx hb dX0_valueAt_1 rfl (lv_at hl 0 rfl) ?_
  obtain ⟨h1, hf⟩ := hs_ck hf
  refine hs_geti (C := RX0) (T := TX0) (N := 5) hx hb hts (fun w h => List.mem_cons_of_mem _ (inlX0 w h)) hown hK.1 hP h1 (by decide) rfl 3 (by decide) (hts _ (List.mem_cons_of_mem _ wq170)) (fun _ h => h) rfl dX0_valueAt_2 ?_
  refine lv_icmp_ge (tgt := 23) hx hb dX0_valueAt_5 (by decide) (fun hc => ?_) (fun hc => ?_)
  · replace hf := hs_t hf hc
    refine lv_iconst (v := 0) hx hb dX0_valueAt_23 (by decide) ?_
    exact hs_iret hx hb hr hlocks rfl hK hP hS hf dX0_valueAt_24
  · replace hf := hs_f hf hc
    refine lv_aload_n hx hb dX0_valueAt_8 rfl (lv_at hl 0 rfl) ?_
    obtain ⟨h2, hf⟩ := hs_ck hf
    refine hs_getr (C := RX0) (T := TX0) (N := 5) hx hb hts (fun w h => List.mem_cons_of_mem _ (inlX0 w h)) hown hK.1 hP h1 (by decide) rfl 0 (by decide) (hts _ (List.mem_cons_of_mem _ wq46)) (fun _ h => h) rfl h2 dX0_valueAt_9 ?_
    refine lv_iload_n hx hb dX0_valueAt_12 rfl (lv_at hl 1 rfl) ?_
    obtain ⟨r4, g3, h5, hf⟩ := hs_bd_some hf
    refine hs_calli (va_runS (As := [.ref (B + ((hs_R g v0 0) - 1)), .int v1]) (rest := []) ⟨hx, hb, hml, hown, hts⟩ (ctX9_at l B D E ((hs_R g v0 0) - 1) v1 g _ h5) (va_cwS 2 hts (hs_gS (fun _ h => List.mem_cons_of_mem _ h) wq192 wq193 wq68 wq194) rfl rfl rfl (by decide +kernel) ⟨Nat.le_of_ble_eq_true rfl, Nat.le_of_ble_eq_true rfl⟩) (hs_pre hP hK) rfl rfl hl.1 rfl (lv_room (Nat.le_of_ble_eq_true rfl)) dX0_valueAt_13 ⟨(Nat.le_of_ble_eq_true rfl), (Nat.le_of_ble_eq_true rfl)⟩) hS (fun H locs hP hS => ?_)
    refine lv_sipush (v := 255) hx hb dX0_valueAt_16 (by decide) ?_
    refine lv_iand hx hb dX0_valueAt_19 ?_
    refine lv_goto (tgt := 24) hx hb dX0_valueAt_20 (by decide) ?_
    exact hs_iret hx hb hr hlocks rfl hK hP hS hf dX0_valueAt_24

theorem dX0_has_0 : decode cX0_has 0 = .ok (.iload_n 1, 1) := by decide +kernel
theorem dX0_has_1 : decode cX0_has 1 = .ok (.ifCond .lt 15, 3) := by decide +kernel
theorem dX0_has_4 : decode cX0_has 4 = .ok (.iload_n 1, 1) := by decide +kernel
theorem dX0_has_5 : decode cX0_has 5 = .ok (.aload_n 0, 1) := by decide +kernel
theorem dX0_has_6 : decode cX0_has 6 = .ok (.getfield 32, 3) := by decide +kernel
theorem dX0_has_9 : decode cX0_has 9 = .ok (.if_icmp .ge 7, 3) := by decide +kernel
theorem dX0_has_12 : decode cX0_has 12 = .ok (.iconst 1, 1) := by decide +kernel
theorem dX0_has_13 : decode cX0_has 13 = .ok (.goto 4, 3) := by decide +kernel
theorem dX0_has_16 : decode cX0_has 16 = .ok (.iconst 0, 1) := by decide +kernel
theorem dX0_has_17 : decode cX0_has 17 = .ok (.ireturn, 1) := by decide +kernel
abbrev wcX0_has : List Cond := .code yX0_has cX0_has 2 (some .boolean) :: wsL_law
def fX0_has (v0 : Nat) (v1 : Int32) (g : hs_S) : Option (Int32 × hs_S) :=
  if v1 < 0 then (
    some ((0 : Int32), g)
  ) else (
    if hs_kd g v0 = 0 then
    if (hs_I g v0 4) ≤ v1 then (
      some ((0 : Int32), g)
    ) else (
      some ((1 : Int32), g)
    )
    else none
  )
abbrev rmX0_has : Room := { frames := 0, cells := 0, slots := 0, locals := 0 }
set_option maxHeartbeats 4000000 in
set_option maxRecDepth 100000 in
theorem ctX0_has (l : Launch) (B : Nat) (D : va_G) (E : Nat → ClassId) (v0 : Nat) (v1 : Int32) (g : hs_S) (o : Int32 × hs_S) (hf : fX0_has v0 v1 g = some o) : Met l yX0_has wcX0_has rmX0_has (hs_Pc B D E g [.ref (B + v0), .int v1]) (hs_Qi B D E o) (0) (0) (hs_F B) := by
  refine Met.ofW (cc := cX0_has) (maxL := 2) (ret := (some .boolean)) (by decide) rfl ?_
  intro p e s m args below meth c s₁ Bd hml hv
  obtain ⟨rfl, hP, hK⟩ := hv
  have hx := Bd.exec
  have hb := Bd.bytes
  have hr := Bd.returns
  have hts := atoms_spec (ws := wcX0_has) Bd.pre
  have hown : s.vm.findClass RX0 = some m.cls := findClass_of_methodNamed Bd.named
  have hlocks := Bd.notSynchronized
  have hS : hs_Sx B s.heap s.heap [] := va_S.rf
  have hX : hs_cx cX0_has (some .boolean) 2 RX0 wcX0_has p s m (List.toArray [.ref (B + v0), .int v1]) meth c D E := ⟨hx, hb, hr, hml, hown, hts, hlocks, hK⟩
  have hl := lv_entry ([.ref (B + v0), .int v1]) (n := 2) (Nat.le_of_ble_eq_true rfl)
  rw [lg_entry_eq]
  generalize (lg_sl ([.ref (B + v0), .int v1]) ++ List.replicate (2 - (lg_sl ([.ref (B + v0), .int v1])).length) Slot.unset).toArray = ls at hl ⊢
  have hl : lv_has ls 2 [(0, .ref (B + v0)), (1, .int v1)] := hl
  have hP : hs_P B D E g s.heap := hP
  unfold fX0_has at hf
  refine lv_iload_n hx hb dX0_has_0 rfl (lv_at hl 1 rfl) ?_
  refine lv_if_lt (tgt := 16) hx hb dX0_has_1 (by decide) (fun hc => ?_) (fun hc => ?_)
  · replace hf := hs_t hf hc
    refine lv_iconst (v := 0) hx hb dX0_has_16 (by decide) ?_
    exact hs_iret hx hb hr hlocks (hs_01_nar (rfl)) hK hP hS hf dX0_has_17
  · replace hf := hs_f hf hc
    refine lv_iload_n hx hb dX0_has_4 rfl (lv_at hl 1 rfl) ?_
    refine lv_aload_n hx hb dX0_has_5 rfl (lv_at hl 0 rfl) ?_
    obtain ⟨h1, hf⟩ := hs_ck hf
    refine hs_geti (C := RX0) (T := TX0) (N := 5) hx hb hts (fun w h => List.mem_cons_of_mem _ (inlX0 w h)) hown hK.1 hP h1 (by decide) rfl 4 (by decide) (hts _ (List.mem_cons_of_mem _ wq278)) (fun _ h => h) rfl dX0_has_6 ?_
    refine lv_icmp_ge (tgt := 16) hx hb dX0_has_9 (by decide) (fun hc => ?_) (fun hc => ?_)
    · replace hf := hs_t hf hc
      refine lv_iconst (v := 0) hx hb dX0_has_16 (by decide) ?_
      exact hs_iret hx hb hr hlocks (hs_01_nar (rfl)) hK hP hS hf dX0_has_17
    · replace hf := hs_f hf hc
      refine lv_iconst (v := 1) hx hb dX0_has_12 (by decide) ?_
      refine lv_goto (tgt := 17) hx hb dX0_has_13 (by decide) ?_
      exact hs_iret hx hb hr hlocks (hs_01_nar (rfl)) hK hP hS hf dX0_has_17

theorem dX8_of_0 : decode cX8_of 0 = .ok (.aload_n 0, 1) := by decide +kernel
theorem dX8_of_1 : decode cX8_of 1 = .ok (.getfield 9, 3) := by decide +kernel
theorem dX8_of_4 : decode cX8_of 4 = .ok (.iload_n 1, 1) := by decide +kernel
theorem dX8_of_5 : decode cX8_of 5 = .ok (.invokestatic 30, 3) := by decide +kernel
theorem dX8_of_8 : decode cX8_of 8 = .ok (.ireturn, 1) := by decide +kernel
abbrev wcX8_of : List Cond := .code yX8_of cX8_of 2 (some .int) :: wsL_law
def fX8_of (v0 : Nat) (v1 : Int32) (g : hs_S) : Option (Int32 × hs_S) :=
  if hs_kd g v0 = 7 then
  if ¬ (hs_R g v0 0) = 0 then
  hs_bd (fX9_at ((hs_R g v0 0) - 1) v1 g) fun r4 g3 =>
  some (r4, g3)
  else none else none
abbrev rmX8_of : Room := { frames := 1, cells := 0, slots := 0, locals := 21 }
set_option maxHeartbeats 4000000 in
set_option maxRecDepth 100000 in
theorem ctX8_of (l : Launch) (B : Nat) (D : va_G) (E : Nat → ClassId) (v0 : Nat) (v1 : Int32) (g : hs_S) (o : Int32 × hs_S) (hf : fX8_of v0 v1 g = some o) : Met l yX8_of wcX8_of rmX8_of (hs_Pc B D E g [.ref (B + v0), .int v1]) (hs_Qi B D E o) (0) (0) (hs_F B) := by
  refine Met.ofW (cc := cX8_of) (maxL := 2) (ret := (some .int)) (by decide) rfl ?_
  intro p e s m args below meth c s₁ Bd hml hv
  obtain ⟨rfl, hP, hK⟩ := hv
  have hx := Bd.exec
  have hb := Bd.bytes
  have hr := Bd.returns
  have hts := atoms_spec (ws := wcX8_of) Bd.pre
  have hown : s.vm.findClass RX8 = some m.cls := findClass_of_methodNamed Bd.named
  have hlocks := Bd.notSynchronized
  have hS : hs_Sx B s.heap s.heap [] := va_S.rf
  have hX : hs_cx cX8_of (some .int) 2 RX8 wcX8_of p s m (List.toArray [.ref (B + v0), .int v1]) meth c D E := ⟨hx, hb, hr, hml, hown, hts, hlocks, hK⟩
  have hl := lv_entry ([.ref (B + v0), .int v1]) (n := 2) (Nat.le_of_ble_eq_true rfl)
  rw [lg_entry_eq]
  generalize (lg_sl ([.ref (B + v0), .int v1]) ++ List.replicate (2 - (lg_sl ([.ref (B + v0), .int v1])).length) Slot.unset).toArray = ls at hl ⊢
  have hl : lv_has ls 2 [(0, .ref (B + v0)), (1, .int v1)] := hl
  have hP : hs_P B D E g s.heap := hP
  unfold fX8_of at hf
  refine lv_aload_n hx hb dX8_of_0 rfl (lv_at hl 0 rfl) ?_
  obtain ⟨h1, hf⟩ := hs_ck hf
  obtain ⟨h2, hf⟩ := hs_ck hf
  refine hs_getr (C := RX8) (T := TX8) (N := 1) hx hb hts (fun w h => List.mem_cons_of_mem _ (inlX8 w h)) hown hK.1 hP h1 (by decide) rfl 0 (by decide) (hts _ (List.mem_cons_of_mem _ wq57)) (fun _ h => h) rfl h2 dX8_of_1 ?_
  refine lv_iload_n hx hb dX8_of_4 rfl (lv_at hl 1 rfl) ?_
  obtain ⟨r4, g3, h5, hf⟩ := hs_bd_some hf
  refine hs_calli (va_runS (As := [.ref (B + ((hs_R g v0 0) - 1)), .int v1]) (rest := []) ⟨hx, hb, hml, hown, hts⟩ (ctX9_at l B D E ((hs_R g v0 0) - 1) v1 g _ h5) (va_cwS 2 hts (hs_gS (fun _ h => List.mem_cons_of_mem _ h) wq475 wq193 wq68 wq194) rfl rfl rfl (by decide +kernel) ⟨Nat.le_of_ble_eq_true rfl, Nat.le_of_ble_eq_true rfl⟩) (hs_pre hP hK) rfl rfl hl.1 rfl (lv_room (Nat.le_of_ble_eq_true rfl)) dX8_of_5 ⟨(Nat.le_of_ble_eq_true rfl), (Nat.le_of_ble_eq_true rfl)⟩) hS (fun H locs hP hS => ?_)
  exact hs_iret hx hb hr hlocks rfl hK hP hS hf dX8_of_8

theorem dX8_become_0 : decode cX8_become 0 = .ok (.aload_n 0, 1) := by decide +kernel
theorem dX8_become_1 : decode cX8_become 1 = .ok (.getfield 9, 3) := by decide +kernel
theorem dX8_become_4 : decode cX8_become 4 = .ok (.iload_n 1, 1) := by decide +kernel
theorem dX8_become_5 : decode cX8_become 5 = .ok (.iload_n 2, 1) := by decide +kernel
theorem dX8_become_6 : decode cX8_become 6 = .ok (.invokestatic 24, 3) := by decide +kernel
theorem dX8_become_9 : decode cX8_become 9 = .ok (.return_, 1) := by decide +kernel
abbrev wcX8_become : List Cond := .code yX8_become cX8_become 3 none :: wsL_law
def fX8_become (v0 : Nat) (v1 : Int32) (v2 : Int32) (g : hs_S) : Option (hs_S) :=
  if hs_kd g v0 = 7 then
  if ¬ (hs_R g v0 0) = 0 then
  hs_bv (fX9_put ((hs_R g v0 0) - 1) v1 v2 g) fun g3 =>
  some g3
  else none else none
abbrev rmX8_become : Room := { frames := 1, cells := 0, slots := 0, locals := 22 }
set_option maxHeartbeats 4000000 in
set_option maxRecDepth 100000 in
theorem ctX8_become (l : Launch) (B : Nat) (D : va_G) (E : Nat → ClassId) (v0 : Nat) (v1 : Int32) (v2 : Int32) (g : hs_S) (o : hs_S) (hf : fX8_become v0 v1 v2 g = some o) : Met l yX8_become wcX8_become rmX8_become (hs_Pc B D E g [.ref (B + v0), .int v1, .int v2]) (hs_Qv B D E o) (0) (0) (hs_F B) := by
  refine Met.ofW (cc := cX8_become) (maxL := 3) (ret := none) (by decide) rfl ?_
  intro p e s m args below meth c s₁ Bd hml hv
  obtain ⟨rfl, hP, hK⟩ := hv
  have hx := Bd.exec
  have hb := Bd.bytes
  have hr := Bd.returns
  have hts := atoms_spec (ws := wcX8_become) Bd.pre
  have hown : s.vm.findClass RX8 = some m.cls := findClass_of_methodNamed Bd.named
  have hlocks := Bd.notSynchronized
  have hS : hs_Sx B s.heap s.heap [] := va_S.rf
  have hX : hs_cx cX8_become none 3 RX8 wcX8_become p s m (List.toArray [.ref (B + v0), .int v1, .int v2]) meth c D E := ⟨hx, hb, hr, hml, hown, hts, hlocks, hK⟩
  have hl := lv_entry ([.ref (B + v0), .int v1, .int v2]) (n := 3) (Nat.le_of_ble_eq_true rfl)
  rw [lg_entry_eq]
  generalize (lg_sl ([.ref (B + v0), .int v1, .int v2]) ++ List.replicate (3 - (lg_sl ([.ref (B + v0), .int v1, .int v2])).length) Slot.unset).toArray = ls at hl ⊢
  have hl : lv_has ls 3 [(0, .ref (B + v0)), (1, .int v1), (2, .int v2)] := hl
  have hP : hs_P B D E g s.heap := hP
  unfold fX8_become at hf
  refine lv_aload_n hx hb dX8_become_0 rfl (lv_at hl 0 rfl) ?_
  obtain ⟨h1, hf⟩ := hs_ck hf
  obtain ⟨h2, hf⟩ := hs_ck hf
  refine hs_getr (C := RX8) (T := TX8) (N := 1) hx hb hts (fun w h => List.mem_cons_of_mem _ (inlX8 w h)) hown hK.1 hP h1 (by decide) rfl 0 (by decide) (hts _ (List.mem_cons_of_mem _ wq57)) (fun _ h => h) rfl h2 dX8_become_1 ?_
  refine lv_iload_n hx hb dX8_become_4 rfl (lv_at hl 1 rfl) ?_
  refine lv_iload_n hx hb dX8_become_5 rfl (lv_at hl 2 rfl) ?_
  obtain ⟨g3, h5, hf⟩ := hs_bv_some hf
  refine hs_callv (va_runS (As := [.ref (B + ((hs_R g v0 0) - 1)), .int v1, .int v2]) (rest := []) ⟨hx, hb, hml, hown, hts⟩ (ctX9_put l B D E ((hs_R g v0 0) - 1) v1 v2 g _ h5) (va_cwS 3 hts (hs_gS (fun _ h => List.mem_cons_of_mem _ h) wq66 wq67 wq68 wq69) rfl rfl rfl (by decide +kernel) ⟨Nat.le_of_ble_eq_true rfl, Nat.le_of_ble_eq_true rfl⟩) (hs_pre hP hK) rfl rfl hl.1 rfl (lv_room (Nat.le_of_ble_eq_true rfl)) dX8_become_6 ⟨(Nat.le_of_ble_eq_true rfl), (Nat.le_of_ble_eq_true rfl)⟩) hS (fun H locs hP hS => ?_)
  exact hs_vret hx hb hr hlocks hK hP hS hf dX8_become_9

theorem dX10_empty_0 : decode cX10_empty 0 = .ok (.aload_n 0, 1) := by decide +kernel
theorem dX10_empty_1 : decode cX10_empty 1 = .ok (.getfield 9, 3) := by decide +kernel
theorem dX10_empty_4 : decode cX10_empty 4 = .ok (.iconst 0, 1) := by decide +kernel
theorem dX10_empty_5 : decode cX10_empty 5 = .ok (.invokestatic 18, 3) := by decide +kernel
theorem dX10_empty_8 : decode cX10_empty 8 = .ok (.return_, 1) := by decide +kernel
abbrev wcX10_empty : List Cond := .code yX10_empty cX10_empty 1 none :: wsL_law
def fX10_empty (v0 : Nat) (g : hs_S) : Option (hs_S) :=
  if hs_kd g v0 = 8 then
  if ¬ (hs_R g v0 0) = 0 then
  hs_bv (fJ7_fill_53178 ((hs_R g v0 0) - 1) (0 : Int32) g) fun g3 =>
  some g3
  else none else none
abbrev rmX10_empty : Room := { frames := 1, cells := 0, slots := 0, locals := 23 }
set_option maxHeartbeats 4000000 in
set_option maxRecDepth 100000 in
theorem ctX10_empty (l : Launch) (B : Nat) (D : va_G) (E : Nat → ClassId) (v0 : Nat) (g : hs_S) (o : hs_S) (hf : fX10_empty v0 g = some o) : Met l yX10_empty wcX10_empty rmX10_empty (hs_Pc B D E g [.ref (B + v0)]) (hs_Qv B D E o) (0) (0) (hs_F B) := by
  refine Met.ofW (cc := cX10_empty) (maxL := 1) (ret := none) (by decide) rfl ?_
  intro p e s m args below meth c s₁ Bd hml hv
  obtain ⟨rfl, hP, hK⟩ := hv
  have hx := Bd.exec
  have hb := Bd.bytes
  have hr := Bd.returns
  have hts := atoms_spec (ws := wcX10_empty) Bd.pre
  have hown : s.vm.findClass RX10 = some m.cls := findClass_of_methodNamed Bd.named
  have hlocks := Bd.notSynchronized
  have hS : hs_Sx B s.heap s.heap [] := va_S.rf
  have hX : hs_cx cX10_empty none 1 RX10 wcX10_empty p s m (List.toArray [.ref (B + v0)]) meth c D E := ⟨hx, hb, hr, hml, hown, hts, hlocks, hK⟩
  have hl := lv_entry ([.ref (B + v0)]) (n := 1) (Nat.le_of_ble_eq_true rfl)
  rw [lg_entry_eq]
  generalize (lg_sl ([.ref (B + v0)]) ++ List.replicate (1 - (lg_sl ([.ref (B + v0)])).length) Slot.unset).toArray = ls at hl ⊢
  have hl : lv_has ls 1 [(0, .ref (B + v0))] := hl
  have hP : hs_P B D E g s.heap := hP
  unfold fX10_empty at hf
  refine lv_aload_n hx hb dX10_empty_0 rfl (lv_at hl 0 rfl) ?_
  obtain ⟨h1, hf⟩ := hs_ck hf
  obtain ⟨h2, hf⟩ := hs_ck hf
  refine hs_getr (C := RX10) (T := TX10) (N := 2) hx hb hts (fun w h => List.mem_cons_of_mem _ (inlX10 w h)) hown hK.1 hP h1 (by decide) rfl 0 (by decide) (hts _ (List.mem_cons_of_mem _ wq105)) (fun _ h => h) rfl h2 dX10_empty_1 ?_
  refine lv_iconst (v := 0) hx hb dX10_empty_4 (by decide) ?_
  obtain ⟨g3, h5, hf⟩ := hs_bv_some hf
  refine hs_callv (va_runS (As := [.ref (B + ((hs_R g v0 0) - 1)), .int (0 : Int32)]) (rest := []) ⟨hx, hb, hml, hown, hts⟩ (ctJ7_fill_53178 l B D E ((hs_R g v0 0) - 1) (0 : Int32) g _ h5) (va_cwS 2 hts (hs_gS (fun _ h => List.mem_cons_of_mem _ h) wq714 wq63 wq64 wq65) rfl rfl rfl (by decide +kernel) ⟨Nat.le_of_ble_eq_true rfl, Nat.le_of_ble_eq_true rfl⟩) (hs_pre hP hK) rfl rfl hl.1 rfl (lv_room (Nat.le_of_ble_eq_true rfl)) dX10_empty_5 ⟨(Nat.le_of_ble_eq_true rfl), (Nat.le_of_ble_eq_true rfl)⟩) hS (fun H locs hP hS => ?_)
  exact hs_vret hx hb hr hlocks hK hP hS hf dX10_empty_8

theorem dX10_sizeOf_0 : decode cX10_sizeOf 0 = .ok (.aload_n 0, 1) := by decide +kernel
theorem dX10_sizeOf_1 : decode cX10_sizeOf 1 = .ok (.getfield 9, 3) := by decide +kernel
theorem dX10_sizeOf_4 : decode cX10_sizeOf 4 = .ok (.iload_n 1, 1) := by decide +kernel
theorem dX10_sizeOf_5 : decode cX10_sizeOf 5 = .ok (.invokestatic 35, 3) := by decide +kernel
theorem dX10_sizeOf_8 : decode cX10_sizeOf 8 = .ok (.ireturn, 1) := by decide +kernel
abbrev wcX10_sizeOf : List Cond := .code yX10_sizeOf cX10_sizeOf 2 (some .int) :: wsL_law
def fX10_sizeOf (v0 : Nat) (v1 : Int32) (g : hs_S) : Option (Int32 × hs_S) :=
  if hs_kd g v0 = 8 then
  if ¬ (hs_R g v0 0) = 0 then
  hs_bd (fX9_at ((hs_R g v0 0) - 1) v1 g) fun r4 g3 =>
  some (r4, g3)
  else none else none
abbrev rmX10_sizeOf : Room := { frames := 1, cells := 0, slots := 0, locals := 21 }
set_option maxHeartbeats 4000000 in
set_option maxRecDepth 100000 in
theorem ctX10_sizeOf (l : Launch) (B : Nat) (D : va_G) (E : Nat → ClassId) (v0 : Nat) (v1 : Int32) (g : hs_S) (o : Int32 × hs_S) (hf : fX10_sizeOf v0 v1 g = some o) : Met l yX10_sizeOf wcX10_sizeOf rmX10_sizeOf (hs_Pc B D E g [.ref (B + v0), .int v1]) (hs_Qi B D E o) (0) (0) (hs_F B) := by
  refine Met.ofW (cc := cX10_sizeOf) (maxL := 2) (ret := (some .int)) (by decide) rfl ?_
  intro p e s m args below meth c s₁ Bd hml hv
  obtain ⟨rfl, hP, hK⟩ := hv
  have hx := Bd.exec
  have hb := Bd.bytes
  have hr := Bd.returns
  have hts := atoms_spec (ws := wcX10_sizeOf) Bd.pre
  have hown : s.vm.findClass RX10 = some m.cls := findClass_of_methodNamed Bd.named
  have hlocks := Bd.notSynchronized
  have hS : hs_Sx B s.heap s.heap [] := va_S.rf
  have hX : hs_cx cX10_sizeOf (some .int) 2 RX10 wcX10_sizeOf p s m (List.toArray [.ref (B + v0), .int v1]) meth c D E := ⟨hx, hb, hr, hml, hown, hts, hlocks, hK⟩
  have hl := lv_entry ([.ref (B + v0), .int v1]) (n := 2) (Nat.le_of_ble_eq_true rfl)
  rw [lg_entry_eq]
  generalize (lg_sl ([.ref (B + v0), .int v1]) ++ List.replicate (2 - (lg_sl ([.ref (B + v0), .int v1])).length) Slot.unset).toArray = ls at hl ⊢
  have hl : lv_has ls 2 [(0, .ref (B + v0)), (1, .int v1)] := hl
  have hP : hs_P B D E g s.heap := hP
  unfold fX10_sizeOf at hf
  refine lv_aload_n hx hb dX10_sizeOf_0 rfl (lv_at hl 0 rfl) ?_
  obtain ⟨h1, hf⟩ := hs_ck hf
  obtain ⟨h2, hf⟩ := hs_ck hf
  refine hs_getr (C := RX10) (T := TX10) (N := 2) hx hb hts (fun w h => List.mem_cons_of_mem _ (inlX10 w h)) hown hK.1 hP h1 (by decide) rfl 0 (by decide) (hts _ (List.mem_cons_of_mem _ wq105)) (fun _ h => h) rfl h2 dX10_sizeOf_1 ?_
  refine lv_iload_n hx hb dX10_sizeOf_4 rfl (lv_at hl 1 rfl) ?_
  obtain ⟨r4, g3, h5, hf⟩ := hs_bd_some hf
  refine hs_calli (va_runS (As := [.ref (B + ((hs_R g v0 0) - 1)), .int v1]) (rest := []) ⟨hx, hb, hml, hown, hts⟩ (ctX9_at l B D E ((hs_R g v0 0) - 1) v1 g _ h5) (va_cwS 2 hts (hs_gS (fun _ h => List.mem_cons_of_mem _ h) wq817 wq193 wq68 wq194) rfl rfl rfl (by decide +kernel) ⟨Nat.le_of_ble_eq_true rfl, Nat.le_of_ble_eq_true rfl⟩) (hs_pre hP hK) rfl rfl hl.1 rfl (lv_room (Nat.le_of_ble_eq_true rfl)) dX10_sizeOf_5 ⟨(Nat.le_of_ble_eq_true rfl), (Nat.le_of_ble_eq_true rfl)⟩) hS (fun H locs hP hS => ?_)
  exact hs_iret hx hb hr hlocks rfl hK hP hS hf dX10_sizeOf_8

theorem dX10_has_0 : decode cX10_has 0 = .ok (.iload_n 2, 1) := by decide +kernel
theorem dX10_has_1 : decode cX10_has 1 = .ok (.ifCond .lt 16, 3) := by decide +kernel
theorem dX10_has_4 : decode cX10_has 4 = .ok (.iload_n 2, 1) := by decide +kernel
theorem dX10_has_5 : decode cX10_has 5 = .ok (.aload_n 0, 1) := by decide +kernel
theorem dX10_has_6 : decode cX10_has 6 = .ok (.iload_n 1, 1) := by decide +kernel
theorem dX10_has_7 : decode cX10_has 7 = .ok (.invokevirtual 39, 3) := by decide +kernel
theorem dX10_has_10 : decode cX10_has 10 = .ok (.if_icmp .ge 7, 3) := by decide +kernel
theorem dX10_has_13 : decode cX10_has 13 = .ok (.iconst 1, 1) := by decide +kernel
theorem dX10_has_14 : decode cX10_has 14 = .ok (.goto 4, 3) := by decide +kernel
theorem dX10_has_17 : decode cX10_has 17 = .ok (.iconst 0, 1) := by decide +kernel
theorem dX10_has_18 : decode cX10_has 18 = .ok (.ireturn, 1) := by decide +kernel
abbrev wcX10_has : List Cond := .code yX10_has cX10_has 3 (some .boolean) :: wsL_law
def fX10_has (v0 : Nat) (v1 : Int32) (v2 : Int32) (g : hs_S) : Option (Int32 × hs_S) :=
  if v2 < 0 then (
    some ((0 : Int32), g)
  ) else (
    if hs_kd g v0 = 8 then
    hs_bd (fX10_sizeOf v0 v1 g) fun r3 g2 =>
    if r3 ≤ v2 then (
      some ((0 : Int32), g2)
    ) else (
      some ((1 : Int32), g2)
    )
    else none
  )
abbrev rmX10_has : Room := { frames := 2, cells := 0, slots := 0, locals := 42 }
set_option maxHeartbeats 4000000 in
set_option maxRecDepth 100000 in
theorem ctX10_has (l : Launch) (B : Nat) (D : va_G) (E : Nat → ClassId) (v0 : Nat) (v1 : Int32) (v2 : Int32) (g : hs_S) (o : Int32 × hs_S) (hf : fX10_has v0 v1 v2 g = some o) : Met l yX10_has wcX10_has rmX10_has (hs_Pc B D E g [.ref (B + v0), .int v1, .int v2]) (hs_Qi B D E o) (0) (0) (hs_F B) := by
  refine Met.ofW (cc := cX10_has) (maxL := 3) (ret := (some .boolean)) (by decide) rfl ?_
  intro p e s m args below meth c s₁ Bd hml hv
  obtain ⟨rfl, hP, hK⟩ := hv
  have hx := Bd.exec
  have hb := Bd.bytes
  have hr := Bd.returns
  have hts := atoms_spec (ws := wcX10_has) Bd.pre
  have hown : s.vm.findClass RX10 = some m.cls := findClass_of_methodNamed Bd.named
  have hlocks := Bd.notSynchronized
  have hS : hs_Sx B s.heap s.heap [] := va_S.rf
  have hX : hs_cx cX10_has (some .boolean) 3 RX10 wcX10_has p s m (List.toArray [.ref (B + v0), .int v1, .int v2]) meth c D E := ⟨hx, hb, hr, hml, hown, hts, hlocks, hK⟩
  have hl := lv_entry ([.ref (B + v0), .int v1, .int v2]) (n := 3) (Nat.le_of_ble_eq_true rfl)
  rw [lg_entry_eq]
  generalize (lg_sl ([.ref (B + v0), .int v1, .int v2]) ++ List.replicate (3 - (lg_sl ([.ref (B + v0), .int v1, .int v2])).length) Slot.unset).toArray = ls at hl ⊢
  have hl : lv_has ls 3 [(0, .ref (B + v0)), (1, .int v1), (2, .int v2)] := hl
  have hP : hs_P B D E g s.heap := hP
  unfold fX10_has at hf
  refine lv_iload_n hx hb dX10_has_0 rfl (lv_at hl 2 rfl) ?_
  refine lv_if_lt (tgt := 17) hx hb dX10_has_1 (by decide) (fun hc => ?_) (fun hc => ?_)
  · replace hf := hs_t hf hc
    refine lv_iconst (v := 0) hx hb dX10_has_17 (by decide) ?_
    exact hs_iret hx hb hr hlocks (hs_01_nar (rfl)) hK hP hS hf dX10_has_18
  · replace hf := hs_f hf hc
    refine lv_iload_n hx hb dX10_has_4 rfl (lv_at hl 2 rfl) ?_
    refine lv_aload_n hx hb dX10_has_5 rfl (lv_at hl 0 rfl) ?_
    refine lv_iload_n hx hb dX10_has_6 rfl (lv_at hl 1 rfl) ?_
    obtain ⟨h1, hf⟩ := hs_ck hf
    obtain ⟨r3, g2, h4, hf⟩ := hs_bd_some hf
    refine hs_calli (va_runV (As := [.int v1]) (rest := [.int v2]) ⟨hx, hb, hml, hown, hts⟩ (ctX10_sizeOf l B D E v0 v1 g _ h4) (cwV 1 hts (hs_gV (fun _ h => List.mem_cons_of_mem _ h) wq822 wq814 wq815 wq97 wq816) rfl rfl rfl (by decide +kernel) ⟨Nat.le_of_ble_eq_true rfl, Nat.le_of_ble_eq_true rfl⟩) (hs_preV (r := (RX10, TX10, 2)) hP hK h1 (by decide) rfl) rfl rfl hl.1 rfl (lv_room (Nat.le_of_ble_eq_true rfl)) dX10_has_7 ⟨(Nat.le_of_ble_eq_true rfl), (Nat.le_of_ble_eq_true rfl)⟩) hS (fun H locs hP hS => ?_)
    refine lv_icmp_ge (tgt := 17) hx hb dX10_has_10 (by decide) (fun hc => ?_) (fun hc => ?_)
    · replace hf := hs_t hf hc
      refine lv_iconst (v := 0) hx hb dX10_has_17 (by decide) ?_
      exact hs_iret hx hb hr hlocks (hs_01_nar (rfl)) hK hP hS hf dX10_has_18
    · replace hf := hs_f hf hc
      refine lv_iconst (v := 1) hx hb dX10_has_13 (by decide) ?_
      refine lv_goto (tgt := 18) hx hb dX10_has_14 (by decide) ?_
      exact hs_iret hx hb hr hlocks (hs_01_nar (rfl)) hK hP hS hf dX10_has_18

theorem dX10_get_0 : decode cX10_get 0 = .ok (.aload_n 0, 1) := by decide +kernel
theorem dX10_get_1 : decode cX10_get 1 = .ok (.getfield 15, 3) := by decide +kernel
theorem dX10_get_4 : decode cX10_get 4 = .ok (.iload_n 1, 1) := by decide +kernel
theorem dX10_get_5 : decode cX10_get 5 = .ok (.sipush 1000, 3) := by decide +kernel
theorem dX10_get_8 : decode cX10_get 8 = .ok (.imul, 1) := by decide +kernel
theorem dX10_get_9 : decode cX10_get 9 = .ok (.iload_n 2, 1) := by decide +kernel
theorem dX10_get_10 : decode cX10_get 10 = .ok (.iadd, 1) := by decide +kernel
theorem dX10_get_11 : decode cX10_get 11 = .ok (.invokestatic 35, 3) := by decide +kernel
theorem dX10_get_14 : decode cX10_get 14 = .ok (.ireturn, 1) := by decide +kernel
abbrev wcX10_get : List Cond := .code yX10_get cX10_get 3 (some .int) :: wsL_law
def fX10_get (v0 : Nat) (v1 : Int32) (v2 : Int32) (g : hs_S) : Option (Int32 × hs_S) :=
  if hs_kd g v0 = 8 then
  if ¬ (hs_R g v0 1) = 0 then
  hs_bd (fX9_at ((hs_R g v0 1) - 1) ((v1 * (1000 : Int32)) + v2) g) fun r4 g3 =>
  some (r4, g3)
  else none else none
abbrev rmX10_get : Room := { frames := 1, cells := 0, slots := 0, locals := 21 }
set_option maxHeartbeats 4000000 in
set_option maxRecDepth 100000 in
theorem ctX10_get (l : Launch) (B : Nat) (D : va_G) (E : Nat → ClassId) (v0 : Nat) (v1 : Int32) (v2 : Int32) (g : hs_S) (o : Int32 × hs_S) (hf : fX10_get v0 v1 v2 g = some o) : Met l yX10_get wcX10_get rmX10_get (hs_Pc B D E g [.ref (B + v0), .int v1, .int v2]) (hs_Qi B D E o) (0) (0) (hs_F B) := by
  refine Met.ofW (cc := cX10_get) (maxL := 3) (ret := (some .int)) (by decide) rfl ?_
  intro p e s m args below meth c s₁ Bd hml hv
  obtain ⟨rfl, hP, hK⟩ := hv
  have hx := Bd.exec
  have hb := Bd.bytes
  have hr := Bd.returns
  have hts := atoms_spec (ws := wcX10_get) Bd.pre
  have hown : s.vm.findClass RX10 = some m.cls := findClass_of_methodNamed Bd.named
  have hlocks := Bd.notSynchronized
  have hS : hs_Sx B s.heap s.heap [] := va_S.rf
  have hX : hs_cx cX10_get (some .int) 3 RX10 wcX10_get p s m (List.toArray [.ref (B + v0), .int v1, .int v2]) meth c D E := ⟨hx, hb, hr, hml, hown, hts, hlocks, hK⟩
  have hl := lv_entry ([.ref (B + v0), .int v1, .int v2]) (n := 3) (Nat.le_of_ble_eq_true rfl)
  rw [lg_entry_eq]
  generalize (lg_sl ([.ref (B + v0), .int v1, .int v2]) ++ List.replicate (3 - (lg_sl ([.ref (B + v0), .int v1, .int v2])).length) Slot.unset).toArray = ls at hl ⊢
  have hl : lv_has ls 3 [(0, .ref (B + v0)), (1, .int v1), (2, .int v2)] := hl
  have hP : hs_P B D E g s.heap := hP
  unfold fX10_get at hf
  refine lv_aload_n hx hb dX10_get_0 rfl (lv_at hl 0 rfl) ?_
  obtain ⟨h1, hf⟩ := hs_ck hf
  obtain ⟨h2, hf⟩ := hs_ck hf
  refine hs_getr (C := RX10) (T := TX10) (N := 2) hx hb hts (fun w h => List.mem_cons_of_mem _ (inlX10 w h)) hown hK.1 hP h1 (by decide) rfl 1 (by decide) (hts _ (List.mem_cons_of_mem _ wq106)) (fun _ h => h) rfl h2 dX10_get_1 ?_
  refine lv_iload_n hx hb dX10_get_4 rfl (lv_at hl 1 rfl) ?_
  refine lv_sipush (v := 1000) hx hb dX10_get_5 (by decide) ?_
  refine lv_imul hx hb dX10_get_8 ?_
  refine lv_iload_n hx hb dX10_get_9 rfl (lv_at hl 2 rfl) ?_
  refine lv_iadd hx hb dX10_get_10 ?_
  obtain ⟨r4, g3, h5, hf⟩ := hs_bd_some hf
  refine hs_calli (va_runS (As := [.ref (B + ((hs_R g v0 1) - 1)), .int ((v1 * (1000 : Int32)) + v2)]) (rest := []) ⟨hx, hb, hml, hown, hts⟩ (ctX9_at l B D E ((hs_R g v0 1) - 1) ((v1 * (1000 : Int32)) + v2) g _ h5) (va_cwS 2 hts (hs_gS (fun _ h => List.mem_cons_of_mem _ h) wq817 wq193 wq68 wq194) rfl rfl rfl (by decide +kernel) ⟨Nat.le_of_ble_eq_true rfl, Nat.le_of_ble_eq_true rfl⟩) (hs_pre hP hK) rfl rfl hl.1 rfl (lv_room (Nat.le_of_ble_eq_true rfl)) dX10_get_11 ⟨(Nat.le_of_ble_eq_true rfl), (Nat.le_of_ble_eq_true rfl)⟩) hS (fun H locs hP hS => ?_)
  exact hs_iret hx hb hr hlocks rfl hK hP hS hf dX10_get_14

theorem dX6_forget_0 : decode cX6_forget 0 = .ok (.aload_n 0, 1) := by decide +kernel
theorem dX6_forget_1 : decode cX6_forget 1 = .ok (.getfield 20, 3) := by decide +kernel
theorem dX6_forget_4 : decode cX6_forget 4 = .ok (.invokevirtual 37, 3) := by decide +kernel
theorem dX6_forget_7 : decode cX6_forget 7 = .ok (.aload_n 0, 1) := by decide +kernel
theorem dX6_forget_8 : decode cX6_forget 8 = .ok (.iconst 0, 1) := by decide +kernel
theorem dX6_forget_9 : decode cX6_forget 9 = .ok (.putfield 40, 3) := by decide +kernel
theorem dX6_forget_12 : decode cX6_forget 12 = .ok (.aload_n 0, 1) := by decide +kernel
theorem dX6_forget_13 : decode cX6_forget 13 = .ok (.iconst 0, 1) := by decide +kernel
theorem dX6_forget_14 : decode cX6_forget 14 = .ok (.putfield 44, 3) := by decide +kernel
theorem dX6_forget_17 : decode cX6_forget 17 = .ok (.aload_n 0, 1) := by decide +kernel
theorem dX6_forget_18 : decode cX6_forget 18 = .ok (.iconst 0, 1) := by decide +kernel
theorem dX6_forget_19 : decode cX6_forget 19 = .ok (.putfield 47, 3) := by decide +kernel
theorem dX6_forget_22 : decode cX6_forget 22 = .ok (.aload_n 0, 1) := by decide +kernel
theorem dX6_forget_23 : decode cX6_forget 23 = .ok (.iconst 0, 1) := by decide +kernel
theorem dX6_forget_24 : decode cX6_forget 24 = .ok (.putfield 50, 3) := by decide +kernel
theorem dX6_forget_27 : decode cX6_forget 27 = .ok (.return_, 1) := by decide +kernel
abbrev wcX6_forget : List Cond := .code yX6_forget cX6_forget 1 none :: wsL_law
def fX6_forget (v0 : Nat) (g : hs_S) : Option (hs_S) :=
  if hs_kd g v0 = 5 then
  if ¬ (hs_R g v0 2) = 0 then
  if hs_kd g ((hs_R g v0 2) - 1) = 8 then
  hs_bv (fX10_empty ((hs_R g v0 2) - 1) g) fun g4 =>
  if hs_kd g4 v0 = 5 then
  some (hs_wI (hs_wI (hs_wI (hs_wI g4 v0 3 (0 : Int32)) v0 5 (0 : Int32)) v0 6 (0 : Int32)) v0 7 (0 : Int32))
  else none else none else none else none
abbrev rmX6_forget : Room := { frames := 2, cells := 0, slots := 0, locals := 43 }
set_option maxHeartbeats 4000000 in
set_option maxRecDepth 100000 in
theorem ctX6_forget (l : Launch) (B : Nat) (D : va_G) (E : Nat → ClassId) (v0 : Nat) (g : hs_S) (o : hs_S) (hf : fX6_forget v0 g = some o) : Met l yX6_forget wcX6_forget rmX6_forget (hs_Pc B D E g [.ref (B + v0)]) (hs_Qv B D E o) (0) (0) (hs_F B) := by
  refine Met.ofW (cc := cX6_forget) (maxL := 1) (ret := none) (by decide) rfl ?_
  intro p e s m args below meth c s₁ Bd hml hv
  obtain ⟨rfl, hP, hK⟩ := hv
  have hx := Bd.exec
  have hb := Bd.bytes
  have hr := Bd.returns
  have hts := atoms_spec (ws := wcX6_forget) Bd.pre
  have hown : s.vm.findClass RX6 = some m.cls := findClass_of_methodNamed Bd.named
  have hlocks := Bd.notSynchronized
  have hS : hs_Sx B s.heap s.heap [] := va_S.rf
  have hX : hs_cx cX6_forget none 1 RX6 wcX6_forget p s m (List.toArray [.ref (B + v0)]) meth c D E := ⟨hx, hb, hr, hml, hown, hts, hlocks, hK⟩
  have hl := lv_entry ([.ref (B + v0)]) (n := 1) (Nat.le_of_ble_eq_true rfl)
  rw [lg_entry_eq]
  generalize (lg_sl ([.ref (B + v0)]) ++ List.replicate (1 - (lg_sl ([.ref (B + v0)])).length) Slot.unset).toArray = ls at hl ⊢
  have hl : lv_has ls 1 [(0, .ref (B + v0))] := hl
  have hP : hs_P B D E g s.heap := hP
  unfold fX6_forget at hf
  refine lv_aload_n hx hb dX6_forget_0 rfl (lv_at hl 0 rfl) ?_
  obtain ⟨h1, hf⟩ := hs_ck hf
  obtain ⟨h2, hf⟩ := hs_ck hf
  refine hs_getr (C := RX6) (T := TX6) (N := 8) hx hb hts (fun w h => List.mem_cons_of_mem _ (inlX6 w h)) hown hK.1 hP h1 (by decide) rfl 2 (by decide) (hts _ (List.mem_cons_of_mem _ wq98)) (fun _ h => h) rfl h2 dX6_forget_1 ?_
  obtain ⟨h3, hf⟩ := hs_ck hf
  obtain ⟨g4, h6, hf⟩ := hs_bv_some hf
  refine hs_callv (va_runV (As := []) (rest := []) ⟨hx, hb, hml, hown, hts⟩ (ctX10_empty l B D E ((hs_R g v0 2) - 1) g _ h6) (cwV 0 hts (hs_gV (fun _ h => List.mem_cons_of_mem _ h) wq710 wq711 wq712 wq97 wq713) rfl rfl rfl (by decide +kernel) ⟨Nat.le_of_ble_eq_true rfl, Nat.le_of_ble_eq_true rfl⟩) (hs_preV (r := (RX10, TX10, 2)) hP hK h3 (by decide) rfl) rfl rfl hl.1 rfl (lv_room (Nat.le_of_ble_eq_true rfl)) dX6_forget_4 ⟨(Nat.le_of_ble_eq_true rfl), (Nat.le_of_ble_eq_true rfl)⟩) hS (fun H locs hP hS => ?_)
  refine lv_aload_n hx hb dX6_forget_7 rfl (lv_at hl 0 rfl) ?_
  refine lv_iconst (v := 0) hx hb dX6_forget_8 (by decide) ?_
  obtain ⟨h7, hf⟩ := hs_ck hf
  refine hs_puti (C := RX6) (T := TX6) (N := 8) hx hb hts (fun w h => List.mem_cons_of_mem _ (inlX6 w h)) tyX6 tyX6_ok nmX6 hown hK.1 hP hS h7 (by decide) rfl 3 (by decide) (hts _ (List.mem_cons_of_mem _ wq701)) (fun _ h => h) (Or.inl rfl) rfl rfl rfl dX6_forget_9 (fun H locs hP hS => ?_)
  refine lv_aload_n hx hb dX6_forget_12 rfl (lv_at hl 0 rfl) ?_
  refine lv_iconst (v := 0) hx hb dX6_forget_13 (by decide) ?_
  refine hs_puti (C := RX6) (T := TX6) (N := 8) hx hb hts (fun w h => List.mem_cons_of_mem _ (inlX6 w h)) tyX6 tyX6_ok nmX6 hown hK.1 hP hS h7 (by decide) rfl 5 (by decide) (hts _ (List.mem_cons_of_mem _ wq707)) (fun _ h => h) (Or.inl rfl) rfl rfl rfl dX6_forget_14 (fun H locs hP hS => ?_)
  refine lv_aload_n hx hb dX6_forget_17 rfl (lv_at hl 0 rfl) ?_
  refine lv_iconst (v := 0) hx hb dX6_forget_18 (by decide) ?_
  refine hs_puti (C := RX6) (T := TX6) (N := 8) hx hb hts (fun w h => List.mem_cons_of_mem _ (inlX6 w h)) tyX6 tyX6_ok nmX6 hown hK.1 hP hS h7 (by decide) rfl 6 (by decide) (hts _ (List.mem_cons_of_mem _ wq708)) (fun _ h => h) (Or.inl rfl) rfl rfl rfl dX6_forget_19 (fun H locs hP hS => ?_)
  refine lv_aload_n hx hb dX6_forget_22 rfl (lv_at hl 0 rfl) ?_
  refine lv_iconst (v := 0) hx hb dX6_forget_23 (by decide) ?_
  refine hs_puti (C := RX6) (T := TX6) (N := 8) hx hb hts (fun w h => List.mem_cons_of_mem _ (inlX6 w h)) tyX6 tyX6_ok nmX6 hown hK.1 hP hS h7 (by decide) rfl 7 (by decide) (hts _ (List.mem_cons_of_mem _ wq709)) (fun _ h => h) (Or.inl rfl) rfl rfl rfl dX6_forget_24 (fun H locs hP hS => ?_)
  exact hs_vret hx hb hr hlocks hK hP hS hf dX6_forget_27

theorem dX2_firstWrong_0 : decode cX2_firstWrong 0 = .ok (.aload_n 1, 1) := by decide +kernel
theorem dX2_firstWrong_1 : decode cX2_firstWrong 1 = .ok (.aload_n 1, 1) := by decide +kernel
theorem dX2_firstWrong_2 : decode cX2_firstWrong 2 = .ok (.iconst 0, 1) := by decide +kernel
theorem dX2_firstWrong_3 : decode cX2_firstWrong 3 = .ok (.invokevirtual 18, 3) := by decide +kernel
theorem dX2_firstWrong_6 : decode cX2_firstWrong 6 = .ok (.putfield 24, 3) := by decide +kernel
theorem dX2_firstWrong_9 : decode cX2_firstWrong 9 = .ok (.aload_n 1, 1) := by decide +kernel
theorem dX2_firstWrong_10 : decode cX2_firstWrong 10 = .ok (.getfield 28, 3) := by decide +kernel
theorem dX2_firstWrong_13 : decode cX2_firstWrong 13 = .ok (.iconst 1, 1) := by decide +kernel
theorem dX2_firstWrong_14 : decode cX2_firstWrong 14 = .ok (.if_icmp .lt 20, 3) := by decide +kernel
theorem dX2_firstWrong_17 : decode cX2_firstWrong 17 = .ok (.aload_n 1, 1) := by decide +kernel
theorem dX2_firstWrong_18 : decode cX2_firstWrong 18 = .ok (.getfield 24, 3) := by decide +kernel
theorem dX2_firstWrong_21 : decode cX2_firstWrong 21 = .ok (.iconst 1, 1) := by decide +kernel
theorem dX2_firstWrong_22 : decode cX2_firstWrong 22 = .ok (.if_icmp .lt 12, 3) := by decide +kernel
theorem dX2_firstWrong_25 : decode cX2_firstWrong 25 = .ok (.aload_n 1, 1) := by decide +kernel
theorem dX2_firstWrong_26 : decode cX2_firstWrong 26 = .ok (.getfield 24, 3) := by decide +kernel
theorem dX2_firstWrong_29 : decode cX2_firstWrong 29 = .ok (.bipush 8, 2) := by decide +kernel
theorem dX2_firstWrong_31 : decode cX2_firstWrong 31 = .ok (.if_icmp .le 5, 3) := by decide +kernel
theorem dX2_firstWrong_34 : decode cX2_firstWrong 34 = .ok (.iconst 0, 1) := by decide +kernel
theorem dX2_firstWrong_35 : decode cX2_firstWrong 35 = .ok (.ireturn, 1) := by decide +kernel
theorem dX2_firstWrong_36 : decode cX2_firstWrong 36 = .ok (.iconst 1, 1) := by decide +kernel
theorem dX2_firstWrong_37 : decode cX2_firstWrong 37 = .ok (.istore_n 2, 1) := by decide +kernel
theorem dX2_firstWrong_38 : decode cX2_firstWrong 38 = .ok (.iconst 0, 1) := by decide +kernel
theorem dX2_firstWrong_39 : decode cX2_firstWrong 39 = .ok (.istore_n 3, 1) := by decide +kernel
theorem dX2_firstWrong_40 : decode cX2_firstWrong 40 = .ok (.iload_n 3, 1) := by decide +kernel
theorem dX2_firstWrong_41 : decode cX2_firstWrong 41 = .ok (.aload_n 1, 1) := by decide +kernel
theorem dX2_firstWrong_42 : decode cX2_firstWrong 42 = .ok (.getfield 24, 3) := by decide +kernel
theorem dX2_firstWrong_45 : decode cX2_firstWrong 45 = .ok (.if_icmp .ge 41, 3) := by decide +kernel
theorem dX2_firstWrong_48 : decode cX2_firstWrong 48 = .ok (.aload_n 0, 1) := by decide +kernel
theorem dX2_firstWrong_49 : decode cX2_firstWrong 49 = .ok (.aload_n 1, 1) := by decide +kernel
theorem dX2_firstWrong_50 : decode cX2_firstWrong 50 = .ok (.aload_n 1, 1) := by decide +kernel
theorem dX2_firstWrong_51 : decode cX2_firstWrong 51 = .ok (.iload_n 3, 1) := by decide +kernel
theorem dX2_firstWrong_52 : decode cX2_firstWrong 52 = .ok (.invokevirtual 31, 3) := by decide +kernel
theorem dX2_firstWrong_55 : decode cX2_firstWrong 55 = .ok (.iload_n 2, 1) := by decide +kernel
theorem dX2_firstWrong_56 : decode cX2_firstWrong 56 = .ok (.invokevirtual 35, 3) := by decide +kernel
theorem dX2_firstWrong_59 : decode cX2_firstWrong 59 = .ok (.istore 4, 2) := by decide +kernel
theorem dX2_firstWrong_61 : decode cX2_firstWrong 61 = .ok (.iload 4, 2) := by decide +kernel
theorem dX2_firstWrong_63 : decode cX2_firstWrong 63 = .ok (.iconst (-1), 1) := by decide +kernel
theorem dX2_firstWrong_64 : decode cX2_firstWrong 64 = .ok (.if_icmp .eq 6, 3) := by decide +kernel
theorem dX2_firstWrong_67 : decode cX2_firstWrong 67 = .ok (.iload 4, 2) := by decide +kernel
theorem dX2_firstWrong_69 : decode cX2_firstWrong 69 = .ok (.ireturn, 1) := by decide +kernel
theorem dX2_firstWrong_70 : decode cX2_firstWrong 70 = .ok (.aload_n 0, 1) := by decide +kernel
theorem dX2_firstWrong_71 : decode cX2_firstWrong 71 = .ok (.aload_n 1, 1) := by decide +kernel
theorem dX2_firstWrong_72 : decode cX2_firstWrong 72 = .ok (.iload_n 3, 1) := by decide +kernel
theorem dX2_firstWrong_73 : decode cX2_firstWrong 73 = .ok (.invokevirtual 31, 3) := by decide +kernel
theorem dX2_firstWrong_76 : decode cX2_firstWrong 76 = .ok (.invokevirtual 39, 3) := by decide +kernel
theorem dX2_firstWrong_79 : decode cX2_firstWrong 79 = .ok (.istore_n 2, 1) := by decide +kernel
theorem dX2_firstWrong_80 : decode cX2_firstWrong 80 = .ok (.iinc 3 1, 3) := by decide +kernel
theorem dX2_firstWrong_83 : decode cX2_firstWrong 83 = .ok (.goto (-43), 3) := by decide +kernel
theorem dX2_firstWrong_86 : decode cX2_firstWrong 86 = .ok (.iload_n 2, 1) := by decide +kernel
theorem dX2_firstWrong_87 : decode cX2_firstWrong 87 = .ok (.aload_n 1, 1) := by decide +kernel
theorem dX2_firstWrong_88 : decode cX2_firstWrong 88 = .ok (.getfield 28, 3) := by decide +kernel
theorem dX2_firstWrong_91 : decode cX2_firstWrong 91 = .ok (.if_icmp .ge 7, 3) := by decide +kernel
theorem dX2_firstWrong_94 : decode cX2_firstWrong 94 = .ok (.iload_n 2, 1) := by decide +kernel
theorem dX2_firstWrong_95 : decode cX2_firstWrong 95 = .ok (.goto 11, 3) := by decide +kernel
theorem dX2_firstWrong_98 : decode cX2_firstWrong 98 = .ok (.aload_n 0, 1) := by decide +kernel
theorem dX2_firstWrong_99 : decode cX2_firstWrong 99 = .ok (.getfield 12, 3) := by decide +kernel
theorem dX2_firstWrong_102 : decode cX2_firstWrong 102 = .ok (.aload_n 1, 1) := by decide +kernel
theorem dX2_firstWrong_103 : decode cX2_firstWrong 103 = .ok (.invokevirtual 43, 3) := by decide +kernel
theorem dX2_firstWrong_106 : decode cX2_firstWrong 106 = .ok (.ireturn, 1) := by decide +kernel
abbrev wcX2_firstWrong : List Cond := .code yX2_firstWrong cX2_firstWrong 5 (some .int) :: wsL_law
def lX2_firstWrong_40 : Nat → Nat → Nat → Int32 → Int32 → hs_S → Option (Nat × Int32 × Int32 × hs_S)
  | 0, _, _, _, _, _ => none
  | n + 1, v0, v1, v2, v3, g =>
    if hs_kd g v1 = 0 then
    if (hs_I g v1 4) ≤ v3 then (
      some (0, v2, 0, g)
    ) else (
      hs_bd (fX0_method v1 v3 g) fun r8 g7 =>
      if hs_kd g7 v0 = 2 then
      hs_bd ((none : Option (Int32 × hs_S))) fun r12 g11 =>
      none
      else none
    )
    else none
theorem lX2_firstWrong_40_s (n : Nat) (v0 : Nat) (v1 : Nat) (v2 : Int32) (v3 : Int32) (g : hs_S) : lX2_firstWrong_40 (n + 1) v0 v1 v2 v3 g =
    if hs_kd g v1 = 0 then
    if (hs_I g v1 4) ≤ v3 then (
      some (0, v2, 0, g)
    ) else (
      hs_bd (fX0_method v1 v3 g) fun r8 g7 =>
      if hs_kd g7 v0 = 2 then
      hs_bd ((none : Option (Int32 × hs_S))) fun r12 g11 =>
      none
      else none
    )
    else none := rfl
def fX2_firstWrong (v0 : Nat) (v1 : Nat) (g : hs_S) : Option (Int32 × hs_S) :=
  if hs_kd g v1 = 0 then
  hs_bd (fX0_valueAt v1 (0 : Int32) g) fun r3 g2 =>
  if hs_kd g2 v1 = 0 then
  if (hs_I (hs_wI g2 v1 4 r3) v1 3) < (1 : Int32) then (
    some ((0 : Int32), (hs_wI g2 v1 4 r3))
  ) else (
    if (hs_I (hs_wI g2 v1 4 r3) v1 4) < (1 : Int32) then (
      some ((0 : Int32), (hs_wI g2 v1 4 r3))
    ) else (
      if (hs_I (hs_wI g2 v1 4 r3) v1 4) ≤ (8 : Int32) then (
        hs_b4 (lX2_firstWrong_40 hs_N v0 v1 (1 : Int32) (0 : Int32) (hs_wI g2 v1 4 r3)) fun k16 x14 x15 g17 =>
        if k16 = 0 then (
          if hs_kd g17 v1 = 0 then
          if (hs_I g17 v1 3) ≤ x14 then (
            if hs_kd g17 v0 = 2 then
            if ¬ (hs_R g17 v0 0) = 0 then
            if hs_kd g17 ((hs_R g17 v0 0) - 1) = 1 then
            hs_bd ((none : Option (Int32 × hs_S))) fun r24 g23 =>
            none
            else none else none else none
          ) else (
            some (x14, g17)
          )
          else none
        ) else (
          some (x15, g17)
        )
      ) else (
        some ((0 : Int32), (hs_wI g2 v1 4 r3))
      )
    )
  )
  else none else none
abbrev rmX2_firstWrong : Room := { frames := 6, cells := 0, slots := 0, locals := 143 }
set_option maxHeartbeats 4000000 in
set_option maxRecDepth 100000 in
theorem wX2_firstWrong_40 {p : Program} {l : Launch} {e : Env} {s : State} {m : MethodId} {args : Array Value} {below : List Frame} {meth : Method} {c : Code} {B : Nat} {D : va_G} {E : Nat → ClassId} (hX : hs_cx cX2_firstWrong (some .int) 5 RX2 wcX2_firstWrong p s m args meth c D E) {Q : State → Prop} {o : Nat × Int32 × Int32 × hs_S} {v0 : Nat} {v1 : Nat} (hex0 : o.1 = 0 → ∀ (H : Heap) (locs : List Loc) (ls : Array Slot), hs_P B D E (o.2.2.2) H → hs_Sx B s.heap H locs → lv_has ls 5 [(0, .ref (B + v0)), (1, .ref (B + v1)), (2, .int (o.2.1))] → W p l e rmX2_firstWrong s m args below meth c H locs 0 0 Q (F0 m 86 ls [])) (hex1 : o.1 = 1 → ∀ (H : Heap) (locs : List Loc) (ls : Array Slot), hs_P B D E (o.2.2.2) H → hs_Sx B s.heap H locs → lv_has ls 5 [(4, .int (o.2.2.1))] → W p l e rmX2_firstWrong s m args below meth c H locs 0 0 Q (F0 m 67 ls [])) : ∀ (n : Nat) (v2 : Int32) (v3 : Int32) (g : hs_S), lX2_firstWrong_40 n v0 v1 v2 v3 g = some o → ∀ (H : Heap) (locs : List Loc) (ls : Array Slot), hs_P B D E g H → hs_Sx B s.heap H locs → lv_has ls 5 [(0, .ref (B + v0)), (1, .ref (B + v1)), (2, .int v2), (3, .int v3)] → W p l e rmX2_firstWrong s m args below meth c H locs 0 0 Q (F0 m 40 ls []) := by
  obtain ⟨hx, hb, hr, hml, hown, hts, hlocks, hK⟩ := id hX
  intro n
  induction n with
  | zero =>
    intro v2 v3 g hf
    cases hf
  | succ n ih =>
    intro v2 v3 g hf H locs ls hP hS hl
    replace hf := (lX2_firstWrong_40_s n v0 v1 v2 v3 g).symm.trans hf
    refine lv_iload_n hx hb dX2_firstWrong_40 rfl (lv_at hl 3 rfl) ?_
    refine lv_aload_n hx hb dX2_firstWrong_41 rfl (lv_at hl 1 rfl) ?_
    obtain ⟨h6, hf⟩ := hs_ck hf
    refine hs_geti (C := RX0) (T := TX0) (N := 5) hx hb hts (fun w h => List.mem_cons_of_mem _ (inlX0 w h)) hown hK.1 hP h6 (by decide) rfl 4 (by decide) (hts _ (List.mem_cons_of_mem _ wq186)) (fun _ h => h) rfl dX2_firstWrong_42 ?_
    refine lv_icmp_ge (tgt := 86) hx hb dX2_firstWrong_45 (by decide) (fun hc => ?_) (fun hc => ?_)
    · replace hf := hs_t hf hc
      obtain rfl := Option.some.inj hf
      exact hex0 rfl _ _ _ hP hS (lv_sub hl [0, 1, 2] rfl)
    · replace hf := hs_f hf hc
      refine lv_aload_n hx hb dX2_firstWrong_48 rfl (lv_at hl 0 rfl) ?_
      refine lv_aload_n hx hb dX2_firstWrong_49 rfl (lv_at hl 1 rfl) ?_
      refine lv_aload_n hx hb dX2_firstWrong_50 rfl (lv_at hl 1 rfl) ?_
      refine lv_iload_n hx hb dX2_firstWrong_51 rfl (lv_at hl 3 rfl) ?_
      obtain ⟨r8, g7, h9, hf⟩ := hs_bd_some hf
      refine hs_callr (va_runV (As := [.int v3]) (rest := [.ref (B + v1), .ref (B + v0)]) ⟨hx, hb, hml, hown, hts⟩ (ctX0_method l B D E v1 v3 g _ h9) (cwV 1 hts (hs_gV (fun _ h => List.mem_cons_of_mem _ h) wq195 wq108 wq109 wq15 wq110) rfl rfl rfl (by decide +kernel) ⟨Nat.le_of_ble_eq_true rfl, Nat.le_of_ble_eq_true rfl⟩) (hs_preV (r := (RX0, TX0, 5)) hP hK h6 (by decide) rfl) rfl rfl hl.1 rfl (lv_room (Nat.le_of_ble_eq_true rfl)) dX2_firstWrong_52 ⟨(Nat.le_of_ble_eq_true rfl), (Nat.le_of_ble_eq_true rfl)⟩) hS (fun H locs hP hS => ?_)
      refine lv_iload_n hx hb dX2_firstWrong_55 rfl (lv_at hl 2 rfl) ?_
      obtain ⟨h10, hf⟩ := hs_ck hf
      obtain ⟨r12, g11, h13, hf⟩ := hs_bd_some hf
      cases h13

set_option maxHeartbeats 4000000 in
set_option maxRecDepth 100000 in
theorem ctX2_firstWrong (l : Launch) (B : Nat) (D : va_G) (E : Nat → ClassId) (v0 : Nat) (v1 : Nat) (g : hs_S) (o : Int32 × hs_S) (hf : fX2_firstWrong v0 v1 g = some o) : Met l yX2_firstWrong wcX2_firstWrong rmX2_firstWrong (hs_Pc B D E g [.ref (B + v0), .ref (B + v1)]) (hs_Qi B D E o) (0) (0) (hs_F B) := by
  refine Met.ofW (cc := cX2_firstWrong) (maxL := 5) (ret := (some .int)) (by decide) rfl ?_
  intro p e s m args below meth c s₁ Bd hml hv
  obtain ⟨rfl, hP, hK⟩ := hv
  have hx := Bd.exec
  have hb := Bd.bytes
  have hr := Bd.returns
  have hts := atoms_spec (ws := wcX2_firstWrong) Bd.pre
  have hown : s.vm.findClass RX2 = some m.cls := findClass_of_methodNamed Bd.named
  have hlocks := Bd.notSynchronized
  have hS : hs_Sx B s.heap s.heap [] := va_S.rf
  have hX : hs_cx cX2_firstWrong (some .int) 5 RX2 wcX2_firstWrong p s m (List.toArray [.ref (B + v0), .ref (B + v1)]) meth c D E := ⟨hx, hb, hr, hml, hown, hts, hlocks, hK⟩
  have hl := lv_entry ([.ref (B + v0), .ref (B + v1)]) (n := 5) (Nat.le_of_ble_eq_true rfl)
  rw [lg_entry_eq]
  generalize (lg_sl ([.ref (B + v0), .ref (B + v1)]) ++ List.replicate (5 - (lg_sl ([.ref (B + v0), .ref (B + v1)])).length) Slot.unset).toArray = ls at hl ⊢
  have hl : lv_has ls 5 [(0, .ref (B + v0)), (1, .ref (B + v1))] := hl
  have hP : hs_P B D E g s.heap := hP
  unfold fX2_firstWrong at hf
  refine lv_aload_n hx hb dX2_firstWrong_0 rfl (lv_at hl 1 rfl) ?_
  refine lv_aload_n hx hb dX2_firstWrong_1 rfl (lv_at hl 1 rfl) ?_
  refine lv_iconst (v := 0) hx hb dX2_firstWrong_2 (by decide) ?_
  obtain ⟨h1, hf⟩ := hs_ck hf
  obtain ⟨r3, g2, h4, hf⟩ := hs_bd_some hf
  refine hs_calli (va_runV (As := [.int (0 : Int32)]) (rest := [.ref (B + v1)]) ⟨hx, hb, hml, hown, hts⟩ (ctX0_valueAt l B D E v1 (0 : Int32) g _ h4) (cwV 1 hts (hs_gV (fun _ h => List.mem_cons_of_mem _ h) wq188 wq189 wq190 wq15 wq191) rfl rfl rfl (by decide +kernel) ⟨Nat.le_of_ble_eq_true rfl, Nat.le_of_ble_eq_true rfl⟩) (hs_preV (r := (RX0, TX0, 5)) hP hK h1 (by decide) rfl) rfl rfl hl.1 rfl (lv_room (Nat.le_of_ble_eq_true rfl)) dX2_firstWrong_3 ⟨(Nat.le_of_ble_eq_true rfl), (Nat.le_of_ble_eq_true rfl)⟩) hS (fun H locs hP hS => ?_)
  obtain ⟨h5, hf⟩ := hs_ck hf
  refine hs_puti (C := RX0) (T := TX0) (N := 5) hx hb hts (fun w h => List.mem_cons_of_mem _ (inlX0 w h)) tyX0 tyX0_ok nmX0 hown hK.1 hP hS h5 (by decide) rfl 4 (by decide) (hts _ (List.mem_cons_of_mem _ wq186)) (fun _ h => h) (Or.inl rfl) rfl rfl rfl dX2_firstWrong_6 (fun H locs hP hS => ?_)
  refine lv_aload_n hx hb dX2_firstWrong_9 rfl (lv_at hl 1 rfl) ?_
  refine hs_geti (C := RX0) (T := TX0) (N := 5) hx hb hts (fun w h => List.mem_cons_of_mem _ (inlX0 w h)) hown hK.1 hP h5 (by decide) rfl 3 (by decide) (hts _ (List.mem_cons_of_mem _ wq187)) (fun _ h => h) rfl dX2_firstWrong_10 ?_
  refine lv_iconst (v := 1) hx hb dX2_firstWrong_13 (by decide) ?_
  refine lv_icmp_lt (tgt := 34) hx hb dX2_firstWrong_14 (by decide) (fun hc => ?_) (fun hc => ?_)
  · replace hf := hs_t hf hc
    refine lv_iconst (v := 0) hx hb dX2_firstWrong_34 (by decide) ?_
    exact hs_iret hx hb hr hlocks rfl hK hP hS hf dX2_firstWrong_35
  · replace hf := hs_f hf hc
    refine lv_aload_n hx hb dX2_firstWrong_17 rfl (lv_at hl 1 rfl) ?_
    refine hs_geti (C := RX0) (T := TX0) (N := 5) hx hb hts (fun w h => List.mem_cons_of_mem _ (inlX0 w h)) hown hK.1 hP h5 (by decide) rfl 4 (by decide) (hts _ (List.mem_cons_of_mem _ wq186)) (fun _ h => h) rfl dX2_firstWrong_18 ?_
    refine lv_iconst (v := 1) hx hb dX2_firstWrong_21 (by decide) ?_
    refine lv_icmp_lt (tgt := 34) hx hb dX2_firstWrong_22 (by decide) (fun hc => ?_) (fun hc => ?_)
    · replace hf := hs_t hf hc
      refine lv_iconst (v := 0) hx hb dX2_firstWrong_34 (by decide) ?_
      exact hs_iret hx hb hr hlocks rfl hK hP hS hf dX2_firstWrong_35
    · replace hf := hs_f hf hc
      refine lv_aload_n hx hb dX2_firstWrong_25 rfl (lv_at hl 1 rfl) ?_
      refine hs_geti (C := RX0) (T := TX0) (N := 5) hx hb hts (fun w h => List.mem_cons_of_mem _ (inlX0 w h)) hown hK.1 hP h5 (by decide) rfl 4 (by decide) (hts _ (List.mem_cons_of_mem _ wq186)) (fun _ h => h) rfl dX2_firstWrong_26 ?_
      refine lv_bipush (v := 8) hx hb dX2_firstWrong_29 (by decide) ?_
      refine lv_icmp_le (tgt := 36) hx hb dX2_firstWrong_31 (by decide) (fun hc => ?_) (fun hc => ?_)
      · replace hf := hs_t hf hc
        refine lv_iconst (v := 1) hx hb dX2_firstWrong_36 (by decide) ?_
        refine lv_istore_n (lv' := [(2, .int (1 : Int32)), (0, .ref (B + v0)), (1, .ref (B + v1))]) hx hb dX2_firstWrong_37 rfl hl (by decide) rfl (fun ls hl => ?_)
        refine lv_iconst (v := 0) hx hb dX2_firstWrong_38 (by decide) ?_
        refine lv_istore_n (lv' := [(3, .int (0 : Int32)), (2, .int (1 : Int32)), (0, .ref (B + v0)), (1, .ref (B + v1))]) hx hb dX2_firstWrong_39 rfl hl (by decide) rfl (fun ls hl => ?_)
        obtain ⟨k16, x14, x15, g17, h18, hf⟩ := hs_b4_some hf
        refine wX2_firstWrong_40 hX (fun hlab H locs ls hP hS hl => ?_) (fun hlab H locs ls hP hS hl => ?_) hs_N _ _ _ h18 _ _ _ hP hS (lv_sub hl [2, 3, 1, 0] rfl)
        · replace hlab : k16 = 0 := hlab
          replace hf := hs_t hf hlab
          refine lv_iload_n hx hb dX2_firstWrong_86 rfl (lv_at hl 2 rfl) ?_
          refine lv_aload_n hx hb dX2_firstWrong_87 rfl (lv_at hl 1 rfl) ?_
          obtain ⟨h19, hf⟩ := hs_ck hf
          refine hs_geti (C := RX0) (T := TX0) (N := 5) hx hb hts (fun w h => List.mem_cons_of_mem _ (inlX0 w h)) hown hK.1 hP h19 (by decide) rfl 3 (by decide) (hts _ (List.mem_cons_of_mem _ wq187)) (fun _ h => h) rfl dX2_firstWrong_88 ?_
          refine lv_icmp_ge (tgt := 98) hx hb dX2_firstWrong_91 (by decide) (fun hc => ?_) (fun hc => ?_)
          · replace hf := hs_t hf hc
            refine lv_aload_n hx hb dX2_firstWrong_98 rfl (lv_at hl 0 rfl) ?_
            obtain ⟨h20, hf⟩ := hs_ck hf
            obtain ⟨h21, hf⟩ := hs_ck hf
            refine hs_getr (C := RX2) (T := TX2) (N := 1) hx hb hts (fun w h => List.mem_cons_of_mem _ (inlX2 w h)) hown hK.1 hP h20 (by decide) rfl 0 (by decide) (hts _ (List.mem_cons_of_mem _ wq76)) (fun _ h => h) rfl h21 dX2_firstWrong_99 ?_
            refine lv_aload_n hx hb dX2_firstWrong_102 rfl (lv_at hl 1 rfl) ?_
            obtain ⟨h22, hf⟩ := hs_ck hf
            obtain ⟨r24, g23, h25, hf⟩ := hs_bd_some hf
            cases h25
          · replace hf := hs_f hf hc
            refine lv_iload_n hx hb dX2_firstWrong_94 rfl (lv_at hl 2 rfl) ?_
            refine lv_goto (tgt := 106) hx hb dX2_firstWrong_95 (by decide) ?_
            exact hs_iret hx hb hr hlocks rfl hK hP hS hf dX2_firstWrong_106
        · replace hlab : k16 = 1 := hlab
          replace hf := hs_f hf (by rw [hlab]; decide)
          refine lv_iload hx hb dX2_firstWrong_67 (lv_at hl 0 rfl) ?_
          exact hs_iret hx hb hr hlocks rfl hK hP hS hf dX2_firstWrong_69
      · replace hf := hs_f hf hc
        refine lv_iconst (v := 0) hx hb dX2_firstWrong_34 (by decide) ?_
        exact hs_iret hx hb hr hlocks rfl hK hP hS hf dX2_firstWrong_35

