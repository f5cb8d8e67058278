theorem dX6_pay_0 : decode cX6_pay 0 = .ok (.iload_n 2, 1) := by decide +kernel
theorem dX6_pay_1 : decode cX6_pay 1 = .ok (.aload_n 0, 1) := by decide +kernel
theorem dX6_pay_2 : decode cX6_pay 2 = .ok (.getfield 56, 3) := by decide +kernel
theorem dX6_pay_5 : decode cX6_pay 5 = .ok (.aload_n 0, 1) := by decide +kernel
theorem dX6_pay_6 : decode cX6_pay 6 = .ok (.getfield 47, 3) := by decide +kernel
theorem dX6_pay_9 : decode cX6_pay 9 = .ok (.isub, 1) := by decide +kernel
theorem dX6_pay_10 : decode cX6_pay 10 = .ok (.if_icmp .le 5, 3) := by decide +kernel
theorem dX6_pay_13 : decode cX6_pay 13 = .ok (.iconst 1, 1) := by decide +kernel
theorem dX6_pay_14 : decode cX6_pay 14 = .ok (.ireturn, 1) := by decide +kernel
theorem dX6_pay_15 : decode cX6_pay 15 = .ok (.aload_n 0, 1) := by decide +kernel
theorem dX6_pay_16 : decode cX6_pay 16 = .ok (.dup, 1) := by decide +kernel
theorem dX6_pay_17 : decode cX6_pay 17 = .ok (.getfield 47, 3) := by decide +kernel
theorem dX6_pay_20 : decode cX6_pay 20 = .ok (.iload_n 2, 1) := by decide +kernel
theorem dX6_pay_21 : decode cX6_pay 21 = .ok (.iadd, 1) := by decide +kernel
theorem dX6_pay_22 : decode cX6_pay 22 = .ok (.putfield 47, 3) := by decide +kernel
theorem dX6_pay_25 : decode cX6_pay 25 = .ok (.aload_n 1, 1) := by decide +kernel
theorem dX6_pay_26 : decode cX6_pay 26 = .ok (.dup, 1) := by decide +kernel
theorem dX6_pay_27 : decode cX6_pay 27 = .ok (.getfield 89, 3) := by decide +kernel
theorem dX6_pay_30 : decode cX6_pay 30 = .ok (.iload_n 3, 1) := by decide +kernel
theorem dX6_pay_31 : decode cX6_pay 31 = .ok (.iadd, 1) := by decide +kernel
theorem dX6_pay_32 : decode cX6_pay 32 = .ok (.putfield 89, 3) := by decide +kernel
theorem dX6_pay_35 : decode cX6_pay 35 = .ok (.iconst 3, 1) := by decide +kernel
theorem dX6_pay_36 : decode cX6_pay 36 = .ok (.ireturn, 1) := by decide +kernel
abbrev wcX6_pay : List Cond := .code yX6_pay cX6_pay 4 (some .int) :: wsL_law
def fX6_pay (v0 : Nat) (v1 : Nat) (v2 : Int32) (v3 : Int32) (g : hs_S) : Option (Int32 × hs_S) :=
  if hs_kd g v0 = 5 then
  if v2 ≤ ((hs_I g v0 4) - (hs_I g v0 6)) then (
    if hs_kd (hs_wI g v0 6 ((hs_I g v0 6) + v2)) v1 = 3 then
    hs_bv (some (hs_wI (hs_wI g v0 6 ((hs_I g v0 6) + v2)) v1 4 ((hs_I (hs_wI g v0 6 ((hs_I g v0 6) + v2)) v1 4) + v3))) fun g3 =>
    some ((3 : Int32), g3)
    else none
  ) else (
    some ((1 : Int32), g)
  )
  else none
abbrev rmX6_pay : Room := { frames := 0, cells := 0, slots := 0, locals := 0 }
set_option maxHeartbeats 4000000 in
set_option maxRecDepth 100000 in
theorem ctX6_pay (l : Launch) (B : Nat) (D : va_G) (E : Nat → ClassId) (v0 : Nat) (v1 : Nat) (v2 : Int32) (v3 : Int32) (g : hs_S) (o : Int32 × hs_S) (hf : fX6_pay v0 v1 v2 v3 g = some o) : Met l yX6_pay wcX6_pay rmX6_pay (hs_Pc B D E g [.ref (B + v0), .ref (B + v1), .int v2, .int v3]) (hs_Qi B D E o) (0) (0) (hs_F B) := by
  refine Met.ofW (cc := cX6_pay) (maxL := 4) (ret := (some .int)) (by decide) rfl ?_
  intro p e s m args below meth c s₁ Bd hml hv
  obtain ⟨rfl, hP, hK⟩ := hv
  have hx := Bd.exec
  have hb := Bd.bytes
  have hr := Bd.returns
  have hts := atoms_spec (ws := wcX6_pay) Bd.pre
  have hown : s.vm.findClass RX6 = some m.cls := findClass_of_methodNamed Bd.named
  have hlocks := Bd.notSynchronized
  have hS : hs_Sx B s.heap s.heap [] := va_S.rf
  have hX : hs_cx cX6_pay (some .int) 4 RX6 wcX6_pay p s m (List.toArray [.ref (B + v0), .ref (B + v1), .int v2, .int v3]) meth c D E := ⟨hx, hb, hr, hml, hown, hts, hlocks, hK⟩
  have hl := lv_entry ([.ref (B + v0), .ref (B + v1), .int v2, .int v3]) (n := 4) (Nat.le_of_ble_eq_true rfl)
  rw [lg_entry_eq]
  generalize (lg_sl ([.ref (B + v0), .ref (B + v1), .int v2, .int v3]) ++ List.replicate (4 - (lg_sl ([.ref (B + v0), .ref (B + v1), .int v2, .int v3])).length) Slot.unset).toArray = ls at hl ⊢
  have hl : lv_has ls 4 [(0, .ref (B + v0)), (1, .ref (B + v1)), (2, .int v2), (3, .int v3)] := hl
  have hP : hs_P B D E g s.heap := hP
  unfold fX6_pay at hf
  refine lv_iload_n hx hb dX6_pay_0 rfl (lv_at hl 2 rfl) ?_
  refine lv_aload_n hx hb dX6_pay_1 rfl (lv_at hl 0 rfl) ?_
  obtain ⟨h1, hf⟩ := hs_ck hf
  refine hs_geti (C := RX6) (T := TX6) (N := 8) hx hb hts (fun w h => List.mem_cons_of_mem _ (inlX6 w h)) hown hK.1 hP h1 (by decide) rfl 4 (by decide) (hts _ (List.mem_cons_of_mem _ wq698)) (fun _ h => h) rfl dX6_pay_2 ?_
  refine lv_aload_n hx hb dX6_pay_5 rfl (lv_at hl 0 rfl) ?_
  refine hs_geti (C := RX6) (T := TX6) (N := 8) hx hb hts (fun w h => List.mem_cons_of_mem _ (inlX6 w h)) hown hK.1 hP h1 (by decide) rfl 6 (by decide) (hts _ (List.mem_cons_of_mem _ wq708)) (fun _ h => h) rfl dX6_pay_6 ?_
  refine lv_isub hx hb dX6_pay_9 ?_
  refine lv_icmp_le (tgt := 15) hx hb dX6_pay_10 (by decide) (fun hc => ?_) (fun hc => ?_)
  · replace hf := hs_t hf hc
    refine lv_aload_n hx hb dX6_pay_15 rfl (lv_at hl 0 rfl) ?_
    refine lv_dup hx hb dX6_pay_16 rfl ?_
    refine hs_geti (C := RX6) (T := TX6) (N := 8) hx hb hts (fun w h => List.mem_cons_of_mem _ (inlX6 w h)) hown hK.1 hP h1 (by decide) rfl 6 (by decide) (hts _ (List.mem_cons_of_mem _ wq708)) (fun _ h => h) rfl dX6_pay_17 ?_
    refine lv_iload_n hx hb dX6_pay_20 rfl (lv_at hl 2 rfl) ?_
    refine lv_iadd hx hb dX6_pay_21 ?_
    refine hs_puti (C := RX6) (T := TX6) (N := 8) hx hb hts (fun w h => List.mem_cons_of_mem _ (inlX6 w h)) tyX6 tyX6_ok nmX6 hown hK.1 hP hS h1 (by decide) rfl 6 (by decide) (hts _ (List.mem_cons_of_mem _ wq708)) (fun _ h => h) (Or.inl rfl) rfl rfl rfl dX6_pay_22 (fun H locs hP hS => ?_)
    refine lv_aload_n hx hb dX6_pay_25 rfl (lv_at hl 1 rfl) ?_
    refine lv_dup hx hb dX6_pay_26 rfl ?_
    obtain ⟨h2, hf⟩ := hs_ck hf
    refine hs_geti (C := RX3) (T := TX3) (N := 5) hx hb hts (fun w h => List.mem_cons_of_mem _ (inlX3 w h)) hown hK.1 hP h2 (by decide) rfl 4 (by decide) (hts _ (List.mem_cons_of_mem _ wq735)) (fun _ h => h) rfl dX6_pay_27 ?_
    refine lv_iload_n hx hb dX6_pay_30 rfl (lv_at hl 3 rfl) ?_
    refine lv_iadd hx hb dX6_pay_31 ?_
    refine hs_puti (C := RX3) (T := TX3) (N := 5) hx hb hts (fun w h => List.mem_cons_of_mem _ (inlX3 w h)) tyX3 tyX3_ok nmX3 hown hK.1 hP hS h2 (by decide) rfl 4 (by decide) (hts _ (List.mem_cons_of_mem _ wq735)) (fun _ h => h) (Or.inl rfl) rfl rfl rfl dX6_pay_32 (fun H locs hP hS => ?_)
    obtain ⟨g3, e4, hf⟩ := hs_bv_some hf
    replace e4 := Option.some.inj e4
    rw [e4] at hP
    have h5 : hs_kd g3 v0 = 5 := by rw [← e4]; exact h1
    have h6 : hs_kd g3 v1 = 3 := by rw [← e4]; exact h2
    refine lv_iconst (v := 3) hx hb dX6_pay_35 (by decide) ?_
    exact hs_iret hx hb hr hlocks rfl hK hP hS hf dX6_pay_36
  · replace hf := hs_f hf hc
    refine lv_iconst (v := 1) hx hb dX6_pay_13 (by decide) ?_
    exact hs_iret hx hb hr hlocks rfl hK hP hS hf dX6_pay_14

theorem dX3_peek_0 : decode cX3_peek 0 = .ok (.aload_n 0, 1) := by decide +kernel
theorem dX3_peek_1 : decode cX3_peek 1 = .ok (.getfield 15, 3) := by decide +kernel
theorem dX3_peek_4 : decode cX3_peek 4 = .ok (.aload_n 0, 1) := by decide +kernel
theorem dX3_peek_5 : decode cX3_peek 5 = .ok (.getfield 26, 3) := by decide +kernel
theorem dX3_peek_8 : decode cX3_peek 8 = .ok (.iconst 1, 1) := by decide +kernel
theorem dX3_peek_9 : decode cX3_peek 9 = .ok (.isub, 1) := by decide +kernel
theorem dX3_peek_10 : decode cX3_peek 10 = .ok (.invokestatic 47, 3) := by decide +kernel
theorem dX3_peek_13 : decode cX3_peek 13 = .ok (.ireturn, 1) := by decide +kernel
abbrev wcX3_peek : List Cond := .code yX3_peek cX3_peek 1 (some .int) :: wsL_law
def fX3_peek (v0 : Nat) (g : hs_S) : Option (Int32 × hs_S) :=
  if hs_kd g v0 = 3 then
  if ¬ (hs_R g v0 1) = 0 then
  hs_bd (fX9_at ((hs_R g v0 1) - 1) ((hs_I g v0 2) - (1 : Int32)) g) fun r4 g3 =>
  some (r4, g3)
  else none else none
abbrev rmX3_peek : Room := { frames := 1, cells := 0, slots := 0, locals := 21 }
set_option maxHeartbeats 4000000 in
set_option maxRecDepth 100000 in
theorem ctX3_peek (l : Launch) (B : Nat) (D : va_G) (E : Nat → ClassId) (v0 : Nat) (g : hs_S) (o : Int32 × hs_S) (hf : fX3_peek v0 g = some o) : Met l yX3_peek wcX3_peek rmX3_peek (hs_Pc B D E g [.ref (B + v0)]) (hs_Qi B D E o) (0) (0) (hs_F B) := by
  refine Met.ofW (cc := cX3_peek) (maxL := 1) (ret := (some .int)) (by decide) rfl ?_
  intro p e s m args below meth c s₁ Bd hml hv
  obtain ⟨rfl, hP, hK⟩ := hv
  have hx := Bd.exec
  have hb := Bd.bytes
  have hr := Bd.returns
  have hts := atoms_spec (ws := wcX3_peek) Bd.pre
  have hown : s.vm.findClass RX3 = some m.cls := findClass_of_methodNamed Bd.named
  have hlocks := Bd.notSynchronized
  have hS : hs_Sx B s.heap s.heap [] := va_S.rf
  have hX : hs_cx cX3_peek (some .int) 1 RX3 wcX3_peek p s m (List.toArray [.ref (B + v0)]) meth c D E := ⟨hx, hb, hr, hml, hown, hts, hlocks, hK⟩
  have hl := lv_entry ([.ref (B + v0)]) (n := 1) (Nat.le_of_ble_eq_true rfl)
  rw [lg_entry_eq]
  generalize (lg_sl ([.ref (B + v0)]) ++ List.replicate (1 - (lg_sl ([.ref (B + v0)])).length) Slot.unset).toArray = ls at hl ⊢
  have hl : lv_has ls 1 [(0, .ref (B + v0))] := hl
  have hP : hs_P B D E g s.heap := hP
  unfold fX3_peek at hf
  refine lv_aload_n hx hb dX3_peek_0 rfl (lv_at hl 0 rfl) ?_
  obtain ⟨h1, hf⟩ := hs_ck hf
  obtain ⟨h2, hf⟩ := hs_ck hf
  refine hs_getr (C := RX3) (T := TX3) (N := 5) hx hb hts (fun w h => List.mem_cons_of_mem _ (inlX3 w h)) hown hK.1 hP h1 (by decide) rfl 1 (by decide) (hts _ (List.mem_cons_of_mem _ wq116)) (fun _ h => h) rfl h2 dX3_peek_1 ?_
  refine lv_aload_n hx hb dX3_peek_4 rfl (lv_at hl 0 rfl) ?_
  refine hs_geti (C := RX3) (T := TX3) (N := 5) hx hb hts (fun w h => List.mem_cons_of_mem _ (inlX3 w h)) hown hK.1 hP h1 (by decide) rfl 2 (by decide) (hts _ (List.mem_cons_of_mem _ wq724)) (fun _ h => h) rfl dX3_peek_5 ?_
  refine lv_iconst (v := 1) hx hb dX3_peek_8 (by decide) ?_
  refine lv_isub hx hb dX3_peek_9 ?_
  obtain ⟨r4, g3, h5, hf⟩ := hs_bd_some hf
  refine hs_calli (va_runS (As := [.ref (B + ((hs_R g v0 1) - 1)), .int ((hs_I g v0 2) - (1 : Int32))]) (rest := []) ⟨hx, hb, hml, hown, hts⟩ (ctX9_at l B D E ((hs_R g v0 1) - 1) ((hs_I g v0 2) - (1 : Int32)) g _ h5) (va_cwS 2 hts (hs_gS (fun _ h => List.mem_cons_of_mem _ h) wq758 wq193 wq68 wq194) rfl rfl rfl (by decide +kernel) ⟨Nat.le_of_ble_eq_true rfl, Nat.le_of_ble_eq_true rfl⟩) (hs_pre hP hK) rfl rfl hl.1 rfl (lv_room (Nat.le_of_ble_eq_true rfl)) dX3_peek_10 ⟨(Nat.le_of_ble_eq_true rfl), (Nat.le_of_ble_eq_true rfl)⟩) hS (fun H locs hP hS => ?_)
  exact hs_iret hx hb hr hlocks rfl hK hP hS hf dX3_peek_13

theorem dX3_operand_0 : decode cX3_operand 0 = .ok (.aload_n 0, 1) := by decide +kernel
theorem dX3_operand_1 : decode cX3_operand 1 = .ok (.getfield 18, 3) := by decide +kernel
theorem dX3_operand_4 : decode cX3_operand 4 = .ok (.aload_n 0, 1) := by decide +kernel
theorem dX3_operand_5 : decode cX3_operand 5 = .ok (.getfield 22, 3) := by decide +kernel
theorem dX3_operand_8 : decode cX3_operand 8 = .ok (.iconst 1, 1) := by decide +kernel
theorem dX3_operand_9 : decode cX3_operand 9 = .ok (.iadd, 1) := by decide +kernel
theorem dX3_operand_10 : decode cX3_operand 10 = .ok (.invokevirtual 35, 3) := by decide +kernel
theorem dX3_operand_13 : decode cX3_operand 13 = .ok (.ireturn, 1) := by decide +kernel
abbrev wcX3_operand : List Cond := .code yX3_operand cX3_operand 1 (some .int) :: wsL_law
def fX3_operand (v0 : Nat) (g : hs_S) : Option (Int32 × hs_S) :=
  if hs_kd g v0 = 3 then
  if ¬ (hs_R g v0 3) = 0 then
  if hs_kd g ((hs_R g v0 3) - 1) = 6 then
  hs_bd (fX7_valueAt ((hs_R g v0 3) - 1) ((hs_I g v0 4) + (1 : Int32)) g) fun r5 g4 =>
  some (r5, g4)
  else none else none else none
abbrev rmX3_operand : Room := { frames := 2, cells := 0, slots := 0, locals := 42 }
set_option maxHeartbeats 4000000 in
set_option maxRecDepth 100000 in
theorem ctX3_operand (l : Launch) (B : Nat) (D : va_G) (E : Nat → ClassId) (v0 : Nat) (g : hs_S) (o : Int32 × hs_S) (hf : fX3_operand v0 g = some o) : Met l yX3_operand wcX3_operand rmX3_operand (hs_Pc B D E g [.ref (B + v0)]) (hs_Qi B D E o) (0) (0) (hs_F B) := by
  refine Met.ofW (cc := cX3_operand) (maxL := 1) (ret := (some .int)) (by decide) rfl ?_
  intro p e s m args below meth c s₁ Bd hml hv
  obtain ⟨rfl, hP, hK⟩ := hv
  have hx := Bd.exec
  have hb := Bd.bytes
  have hr := Bd.returns
  have hts := atoms_spec (ws := wcX3_operand) Bd.pre
  have hown : s.vm.findClass RX3 = some m.cls := findClass_of_methodNamed Bd.named
  have hlocks := Bd.notSynchronized
  have hS : hs_Sx B s.heap s.heap [] := va_S.rf
  have hX : hs_cx cX3_operand (some .int) 1 RX3 wcX3_operand p s m (List.toArray [.ref (B + v0)]) meth c D E := ⟨hx, hb, hr, hml, hown, hts, hlocks, hK⟩
  have hl := lv_entry ([.ref (B + v0)]) (n := 1) (Nat.le_of_ble_eq_true rfl)
  rw [lg_entry_eq]
  generalize (lg_sl ([.ref (B + v0)]) ++ List.replicate (1 - (lg_sl ([.ref (B + v0)])).length) Slot.unset).toArray = ls at hl ⊢
  have hl : lv_has ls 1 [(0, .ref (B + v0))] := hl
  have hP : hs_P B D E g s.heap := hP
  unfold fX3_operand at hf
  refine lv_aload_n hx hb dX3_operand_0 rfl (lv_at hl 0 rfl) ?_
  obtain ⟨h1, hf⟩ := hs_ck hf
  obtain ⟨h2, hf⟩ := hs_ck hf
  refine hs_getr (C := RX3) (T := TX3) (N := 5) hx hb hts (fun w h => List.mem_cons_of_mem _ (inlX3 w h)) hown hK.1 hP h1 (by decide) rfl 3 (by decide) (hts _ (List.mem_cons_of_mem _ wq117)) (fun _ h => h) rfl h2 dX3_operand_1 ?_
  refine lv_aload_n hx hb dX3_operand_4 rfl (lv_at hl 0 rfl) ?_
  refine hs_geti (C := RX3) (T := TX3) (N := 5) hx hb hts (fun w h => List.mem_cons_of_mem _ (inlX3 w h)) hown hK.1 hP h1 (by decide) rfl 4 (by decide) (hts _ (List.mem_cons_of_mem _ wq723)) (fun _ h => h) rfl dX3_operand_5 ?_
  refine lv_iconst (v := 1) hx hb dX3_operand_8 (by decide) ?_
  refine lv_iadd hx hb dX3_operand_9 ?_
  obtain ⟨h3, hf⟩ := hs_ck hf
  obtain ⟨r5, g4, h6, hf⟩ := hs_bd_some hf
  refine hs_calli (va_runV (As := [.int ((hs_I g v0 4) + (1 : Int32))]) (rest := []) ⟨hx, hb, hml, hown, hts⟩ (ctX7_valueAt l B D E ((hs_R g v0 3) - 1) ((hs_I g v0 4) + (1 : Int32)) g _ h6) (cwV 1 hts (hs_gV (fun _ h => List.mem_cons_of_mem _ h) wq741 wq249 wq250 wq43 wq251) rfl rfl rfl (by decide +kernel) ⟨Nat.le_of_ble_eq_true rfl, Nat.le_of_ble_eq_true rfl⟩) (hs_preV (r := (RX7, TX7, 11)) hP hK h3 (by decide) rfl) rfl rfl hl.1 rfl (lv_room (Nat.le_of_ble_eq_true rfl)) dX3_operand_10 ⟨(Nat.le_of_ble_eq_true rfl), (Nat.le_of_ble_eq_true rfl)⟩) hS (fun H locs hP hS => ?_)
  exact hs_iret hx hb hr hlocks rfl hK hP hS hf dX3_operand_13

theorem dX3_pop_0 : decode cX3_pop 0 = .ok (.aload_n 0, 1) := by decide +kernel
theorem dX3_pop_1 : decode cX3_pop 1 = .ok (.getfield 26, 3) := by decide +kernel
theorem dX3_pop_4 : decode cX3_pop 4 = .ok (.ifCond .le 13, 3) := by decide +kernel
theorem dX3_pop_7 : decode cX3_pop 7 = .ok (.aload_n 0, 1) := by decide +kernel
theorem dX3_pop_8 : decode cX3_pop 8 = .ok (.dup, 1) := by decide +kernel
theorem dX3_pop_9 : decode cX3_pop 9 = .ok (.getfield 26, 3) := by decide +kernel
theorem dX3_pop_12 : decode cX3_pop 12 = .ok (.iconst 1, 1) := by decide +kernel
theorem dX3_pop_13 : decode cX3_pop 13 = .ok (.isub, 1) := by decide +kernel
theorem dX3_pop_14 : decode cX3_pop 14 = .ok (.putfield 26, 3) := by decide +kernel
theorem dX3_pop_17 : decode cX3_pop 17 = .ok (.aload_n 0, 1) := by decide +kernel
theorem dX3_pop_18 : decode cX3_pop 18 = .ok (.getfield 15, 3) := by decide +kernel
theorem dX3_pop_21 : decode cX3_pop 21 = .ok (.aload_n 0, 1) := by decide +kernel
theorem dX3_pop_22 : decode cX3_pop 22 = .ok (.getfield 26, 3) := by decide +kernel
theorem dX3_pop_25 : decode cX3_pop 25 = .ok (.invokestatic 47, 3) := by decide +kernel
theorem dX3_pop_28 : decode cX3_pop 28 = .ok (.ireturn, 1) := by decide +kernel
abbrev wcX3_pop : List Cond := .code yX3_pop cX3_pop 1 (some .int) :: wsL_law
def jX3_pop_17 (v0 : Nat) (g : hs_S) : Option (Int32 × hs_S) :=
  if hs_kd g v0 = 3 then
  if ¬ (hs_R g v0 1) = 0 then
  hs_bd (fX9_at ((hs_R g v0 1) - 1) (hs_I g v0 2) g) fun r5 g4 =>
  some (r5, g4)
  else none else none
def fX3_pop (v0 : Nat) (g : hs_S) : Option (Int32 × hs_S) :=
  if hs_kd g v0 = 3 then
  if (hs_I g v0 2) ≤ 0 then (
    jX3_pop_17 v0 g
  ) else (
    jX3_pop_17 v0 (hs_wI g v0 2 ((hs_I g v0 2) - (1 : Int32)))
  )
  else none
abbrev rmX3_pop : Room := { frames := 1, cells := 0, slots := 0, locals := 21 }
set_option maxHeartbeats 4000000 in
set_option maxRecDepth 100000 in
theorem wX3_pop_j17 {p : Program} {l : Launch} {e : Env} {s : State} {m : MethodId} {args : Array Value} {below : List Frame} {meth : Method} {c : Code} {B : Nat} {D : va_G} {E : Nat → ClassId} (hX : hs_cx cX3_pop (some .int) 1 RX3 wcX3_pop p s m args meth c D E) {o : Int32 × hs_S}  {v0 : Nat}   {g : hs_S} {H : Heap} {locs : List Loc} {ls : Array Slot} (hf : jX3_pop_17 v0 g = some o) (hP : hs_P B D E g H) (hS : hs_Sx B s.heap H locs) (hl : lv_has ls 1 [(0, .ref (B + v0))]) : W p l e rmX3_pop s m args below meth c H locs 0 0 (MQ below (hs_Qi B D E o) args s 0 0 (hs_F B)) (F0 m 17 ls []) := by
  obtain ⟨hx, hb, hr, hml, hown, hts, hlocks, hK⟩ := id hX
  unfold jX3_pop_17 at hf
  refine lv_aload_n hx hb dX3_pop_17 rfl (lv_at hl 0 rfl) ?_
  obtain ⟨h2, hf⟩ := hs_ck hf
  obtain ⟨h3, hf⟩ := hs_ck hf
  refine hs_getr (C := RX3) (T := TX3) (N := 5) hx hb hts (fun w h => List.mem_cons_of_mem _ (inlX3 w h)) hown hK.1 hP h2 (by decide) rfl 1 (by decide) (hts _ (List.mem_cons_of_mem _ wq116)) (fun _ h => h) rfl h3 dX3_pop_18 ?_
  refine lv_aload_n hx hb dX3_pop_21 rfl (lv_at hl 0 rfl) ?_
  refine hs_geti (C := RX3) (T := TX3) (N := 5) hx hb hts (fun w h => List.mem_cons_of_mem _ (inlX3 w h)) hown hK.1 hP h2 (by decide) rfl 2 (by decide) (hts _ (List.mem_cons_of_mem _ wq724)) (fun _ h => h) rfl dX3_pop_22 ?_
  obtain ⟨r5, g4, h6, hf⟩ := hs_bd_some hf
  refine hs_calli (va_runS (As := [.ref (B + ((hs_R g v0 1) - 1)), .int (hs_I g v0 2)]) (rest := []) ⟨hx, hb, hml, hown, hts⟩ (ctX9_at l B D E ((hs_R g v0 1) - 1) (hs_I g v0 2) g _ h6) (va_cwS 2 hts (hs_gS (fun _ h => List.mem_cons_of_mem _ h) wq758 wq193 wq68 wq194) rfl rfl rfl (by decide +kernel) ⟨Nat.le_of_ble_eq_true rfl, Nat.le_of_ble_eq_true rfl⟩) (hs_pre hP hK) rfl rfl hl.1 rfl (lv_room (Nat.le_of_ble_eq_true rfl)) dX3_pop_25 ⟨(Nat.le_of_ble_eq_true rfl), (Nat.le_of_ble_eq_true rfl)⟩) hS (fun H locs hP hS => ?_)
  exact hs_iret hx hb hr hlocks rfl hK hP hS hf dX3_pop_28

set_option maxHeartbeats 4000000 in
set_option maxRecDepth 100000 in
theorem ctX3_pop (l : Launch) (B : Nat) (D : va_G) (E : Nat → ClassId) (v0 : Nat) (g : hs_S) (o : Int32 × hs_S) (hf : fX3_pop v0 g = some o) : Met l yX3_pop wcX3_pop rmX3_pop (hs_Pc B D E g [.ref (B + v0)]) (hs_Qi B D E o) (0) (0) (hs_F B) := by
  refine Met.ofW (cc := cX3_pop) (maxL := 1) (ret := (some .int)) (by decide) rfl ?_
  intro p e s m args below meth c s₁ Bd hml hv
  obtain ⟨rfl, hP, hK⟩ := hv
  have hx := Bd.exec
  have hb := Bd.bytes
  have hr := Bd.returns
  have hts := atoms_spec (ws := wcX3_pop) Bd.pre
  have hown : s.vm.findClass RX3 = some m.cls := findClass_of_methodNamed Bd.named
  have hlocks := Bd.notSynchronized
  have hS : hs_Sx B s.heap s.heap [] := va_S.rf
  have hX : hs_cx cX3_pop (some .int) 1 RX3 wcX3_pop p s m (List.toArray [.ref (B + v0)]) meth c D E := ⟨hx, hb, hr, hml, hown, hts, hlocks, hK⟩
  have hl := lv_entry ([.ref (B + v0)]) (n := 1) (Nat.le_of_ble_eq_true rfl)
  rw [lg_entry_eq]
  generalize (lg_sl ([.ref (B + v0)]) ++ List.replicate (1 - (lg_sl ([.ref (B + v0)])).length) Slot.unset).toArray = ls at hl ⊢
  have hl : lv_has ls 1 [(0, .ref (B + v0))] := hl
  have hP : hs_P B D E g s.heap := hP
  unfold fX3_pop at hf
  refine lv_aload_n hx hb dX3_pop_0 rfl (lv_at hl 0 rfl) ?_
  obtain ⟨h1, hf⟩ := hs_ck hf
  refine hs_geti (C := RX3) (T := TX3) (N := 5) hx hb hts (fun w h => List.mem_cons_of_mem _ (inlX3 w h)) hown hK.1 hP h1 (by decide) rfl 2 (by decide) (hts _ (List.mem_cons_of_mem _ wq724)) (fun _ h => h) rfl dX3_pop_1 ?_
  refine lv_if_le (tgt := 17) hx hb dX3_pop_4 (by decide) (fun hc => ?_) (fun hc => ?_)
  · replace hf := hs_t hf hc
    exact wX3_pop_j17 hX hf hP hS (lv_sub hl [0] rfl)
  · replace hf := hs_f hf hc
    refine lv_aload_n hx hb dX3_pop_7 rfl (lv_at hl 0 rfl) ?_
    refine lv_dup hx hb dX3_pop_8 rfl ?_
    refine hs_geti (C := RX3) (T := TX3) (N := 5) hx hb hts (fun w h => List.mem_cons_of_mem _ (inlX3 w h)) hown hK.1 hP h1 (by decide) rfl 2 (by decide) (hts _ (List.mem_cons_of_mem _ wq724)) (fun _ h => h) rfl dX3_pop_9 ?_
    refine lv_iconst (v := 1) hx hb dX3_pop_12 (by decide) ?_
    refine lv_isub hx hb dX3_pop_13 ?_
    refine hs_puti (C := RX3) (T := TX3) (N := 5) hx hb hts (fun w h => List.mem_cons_of_mem _ (inlX3 w h)) tyX3 tyX3_ok nmX3 hown hK.1 hP hS h1 (by decide) rfl 2 (by decide) (hts _ (List.mem_cons_of_mem _ wq724)) (fun _ h => h) (Or.inl rfl) rfl rfl rfl dX3_pop_14 (fun H locs hP hS => ?_)
    exact wX3_pop_j17 hX hf hP hS (lv_sub hl [0] rfl)

theorem dX6_call_0 : decode cX6_call 0 = .ok (.aload_n 0, 1) := by decide +kernel
theorem dX6_call_1 : decode cX6_call 1 = .ok (.getfield 40, 3) := by decide +kernel
theorem dX6_call_4 : decode cX6_call 4 = .ok (.bipush 60, 2) := by decide +kernel
theorem dX6_call_6 : decode cX6_call 6 = .ok (.if_icmp .lt 5, 3) := by decide +kernel
theorem dX6_call_9 : decode cX6_call 9 = .ok (.iconst 1, 1) := by decide +kernel
theorem dX6_call_10 : decode cX6_call 10 = .ok (.ireturn, 1) := by decide +kernel
theorem dX6_call_11 : decode cX6_call 11 = .ok (.aload_n 0, 1) := by decide +kernel
theorem dX6_call_12 : decode cX6_call 12 = .ok (.getfield 24, 3) := by decide +kernel
theorem dX6_call_15 : decode cX6_call 15 = .ok (.aload_n 1, 1) := by decide +kernel
theorem dX6_call_16 : decode cX6_call 16 = .ok (.invokevirtual 135, 3) := by decide +kernel
theorem dX6_call_19 : decode cX6_call 19 = .ok (.invokevirtual 28, 3) := by decide +kernel
theorem dX6_call_22 : decode cX6_call 22 = .ok (.astore_n 2, 1) := by decide +kernel
theorem dX6_call_23 : decode cX6_call 23 = .ok (.aload_n 0, 1) := by decide +kernel
theorem dX6_call_24 : decode cX6_call 24 = .ok (.aload_n 0, 1) := by decide +kernel
theorem dX6_call_25 : decode cX6_call 25 = .ok (.getfield 40, 3) := by decide +kernel
theorem dX6_call_28 : decode cX6_call 28 = .ok (.invokevirtual 59, 3) := by decide +kernel
theorem dX6_call_31 : decode cX6_call 31 = .ok (.astore_n 3, 1) := by decide +kernel
theorem dX6_call_32 : decode cX6_call 32 = .ok (.aload_n 3, 1) := by decide +kernel
theorem dX6_call_33 : decode cX6_call 33 = .ok (.aload_n 2, 1) := by decide +kernel
theorem dX6_call_34 : decode cX6_call 34 = .ok (.invokevirtual 63, 3) := by decide +kernel
theorem dX6_call_37 : decode cX6_call 37 = .ok (.aload_n 2, 1) := by decide +kernel
theorem dX6_call_38 : decode cX6_call 38 = .ok (.getfield 69, 3) := by decide +kernel
theorem dX6_call_41 : decode cX6_call 41 = .ok (.iconst 1, 1) := by decide +kernel
theorem dX6_call_42 : decode cX6_call 42 = .ok (.isub, 1) := by decide +kernel
theorem dX6_call_43 : decode cX6_call 43 = .ok (.istore 4, 2) := by decide +kernel
theorem dX6_call_45 : decode cX6_call 45 = .ok (.iload 4, 2) := by decide +kernel
theorem dX6_call_47 : decode cX6_call 47 = .ok (.ifCond .lt 19, 3) := by decide +kernel
theorem dX6_call_50 : decode cX6_call 50 = .ok (.aload_n 3, 1) := by decide +kernel
theorem dX6_call_51 : decode cX6_call 51 = .ok (.iload 4, 2) := by decide +kernel
theorem dX6_call_53 : decode cX6_call 53 = .ok (.aload_n 1, 1) := by decide +kernel
theorem dX6_call_54 : decode cX6_call 54 = .ok (.invokevirtual 112, 3) := by decide +kernel
theorem dX6_call_57 : decode cX6_call 57 = .ok (.invokevirtual 74, 3) := by decide +kernel
theorem dX6_call_60 : decode cX6_call 60 = .ok (.iinc 4 (-1), 3) := by decide +kernel
theorem dX6_call_63 : decode cX6_call 63 = .ok (.goto (-18), 3) := by decide +kernel
theorem dX6_call_66 : decode cX6_call 66 = .ok (.aload_n 0, 1) := by decide +kernel
theorem dX6_call_67 : decode cX6_call 67 = .ok (.dup, 1) := by decide +kernel
theorem dX6_call_68 : decode cX6_call 68 = .ok (.getfield 40, 3) := by decide +kernel
theorem dX6_call_71 : decode cX6_call 71 = .ok (.iconst 1, 1) := by decide +kernel
theorem dX6_call_72 : decode cX6_call 72 = .ok (.iadd, 1) := by decide +kernel
theorem dX6_call_73 : decode cX6_call 73 = .ok (.putfield 40, 3) := by decide +kernel
theorem dX6_call_76 : decode cX6_call 76 = .ok (.iconst 3, 1) := by decide +kernel
theorem dX6_call_77 : decode cX6_call 77 = .ok (.ireturn, 1) := by decide +kernel
abbrev wcX6_call : List Cond := .code yX6_call cX6_call 5 (some .int) :: wsL_law
def lX6_call_45 : Nat → Nat → Nat → Nat → Int32 → hs_S → Option (hs_S)
  | 0, _, _, _, _, _ => none
  | n + 1, v0, v1, v3, v4, g =>
    if v4 < 0 then (
      some g
    ) else (
      if hs_kd g v1 = 3 then
      hs_bd (fX3_pop v1 g) fun r22 g21 =>
      if hs_kd g21 v3 = 3 then
      hs_bv (fX3_setLocal v3 v4 r22 g21) fun g25 =>
      lX6_call_45 n v0 v1 v3 (v4 + (-1 : Int32)) g25
      else none else none
    )
theorem lX6_call_45_s (n : Nat) (v0 : Nat) (v1 : Nat) (v3 : Nat) (v4 : Int32) (g : hs_S) : lX6_call_45 (n + 1) v0 v1 v3 v4 g =
    if v4 < 0 then (
      some g
    ) else (
      if hs_kd g v1 = 3 then
      hs_bd (fX3_pop v1 g) fun r22 g21 =>
      if hs_kd g21 v3 = 3 then
      hs_bv (fX3_setLocal v3 v4 r22 g21) fun g25 =>
      lX6_call_45 n v0 v1 v3 (v4 + (-1 : Int32)) g25
      else none else none
    ) := rfl
def fX6_call (v0 : Nat) (v1 : Nat) (g : hs_S) : Option (Int32 × hs_S) :=
  if hs_kd g v0 = 5 then
  if (hs_I g v0 3) < (60 : Int32) then (
    if ¬ (hs_R g v0 0) = 0 then
    if hs_kd g v1 = 3 then
    hs_bd (fX3_operand v1 g) fun r5 g4 =>
    if hs_kd g4 ((hs_R g v0 0) - 1) = 0 then
    hs_bd (fX0_method ((hs_R g v0 0) - 1) r5 g4) fun r9 g8 =>
    if hs_kd g8 v0 = 5 then
    hs_bd (fX6_frame v0 (hs_I g8 v0 3) g8) fun r13 g12 =>
    if hs_kd g12 r13 = 3 then
    hs_bv (fX3_begin r13 r9 g12) fun g16 =>
    if hs_kd g16 r9 = 6 then
    hs_bv (lX6_call_45 hs_N v0 v1 r13 ((hs_I g16 r9 4) - (1 : Int32)) g16) fun g29 =>
    if hs_kd g29 v0 = 5 then
    some ((3 : Int32), (hs_wI g29 v0 3 ((hs_I g29 v0 3) + (1 : Int32))))
    else none else none else none else none else none else none else none
  ) else (
    some ((1 : Int32), g)
  )
  else none
abbrev rmX6_call : Room := { frames := 3, cells := 0, slots := 0, locals := 62 }
set_option maxHeartbeats 4000000 in
set_option maxRecDepth 100000 in
theorem wX6_call_45 {p : Program} {l : Launch} {e : Env} {s : State} {m : MethodId} {args : Array Value} {below : List Frame} {meth : Method} {c : Code} {B : Nat} {D : va_G} {E : Nat → ClassId} (hX : hs_cx cX6_call (some .int) 5 RX6 wcX6_call p s m args meth c D E) {Q : State → Prop} {o : hs_S} {v0 : Nat} {v1 : Nat} {v3 : Nat} (hex0 : ∀ (H : Heap) (locs : List Loc) (ls : Array Slot), hs_P B D E (o) H → hs_Sx B s.heap H locs → lv_has ls 5 [(0, .ref (B + v0))] → W p l e rmX6_call s m args below meth c H locs 0 0 Q (F0 m 66 ls [])) : ∀ (n : Nat) (v4 : Int32) (g : hs_S), lX6_call_45 n v0 v1 v3 v4 g = some o → ∀ (H : Heap) (locs : List Loc) (ls : Array Slot), hs_P B D E g H → hs_Sx B s.heap H locs → lv_has ls 5 [(0, .ref (B + v0)), (1, .ref (B + v1)), (3, .ref (B + v3)), (4, .int v4)] → W p l e rmX6_call s m args below meth c H locs 0 0 Q (F0 m 45 ls []) := by
  obtain ⟨hx, hb, hr, hml, hown, hts, hlocks, hK⟩ := id hX
  intro n
  induction n with
  | zero =>
    intro v4 g hf
    cases hf
  | succ n ih =>
    intro v4 g hf H locs ls hP hS hl
    replace hf := (lX6_call_45_s n v0 v1 v3 v4 g).symm.trans hf
    refine lv_iload hx hb dX6_call_45 (lv_at hl 3 rfl) ?_
    refine lv_if_lt (tgt := 66) hx hb dX6_call_47 (by decide) (fun hc => ?_) (fun hc => ?_)
    · replace hf := hs_t hf hc
      obtain rfl := Option.some.inj hf
      exact hex0 _ _ _ hP hS (lv_sub hl [0] rfl)
    · replace hf := hs_f hf hc
      refine lv_aload_n hx hb dX6_call_50 rfl (lv_at hl 2 rfl) ?_
      refine lv_iload hx hb dX6_call_51 (lv_at hl 3 rfl) ?_
      refine lv_aload_n hx hb dX6_call_53 rfl (lv_at hl 1 rfl) ?_
      obtain ⟨h20, hf⟩ := hs_ck hf
      obtain ⟨r22, g21, h23, hf⟩ := hs_bd_some hf
      refine hs_calli (va_runV (As := []) (rest := [.int v4, .ref (B + v3)]) ⟨hx, hb, hml, hown, hts⟩ (ctX3_pop l B D E v1 g _ h23) (cwV 0 hts (hs_gV (fun _ h => List.mem_cons_of_mem _ h) wq767 wq768 wq769 wq101 wq770) rfl rfl rfl (by decide +kernel) ⟨Nat.le_of_ble_eq_true rfl, Nat.le_of_ble_eq_true rfl⟩) (hs_preV (r := (RX3, TX3, 5)) hP hK h20 (by decide) rfl) rfl rfl hl.1 rfl (lv_room (Nat.le_of_ble_eq_true rfl)) dX6_call_54 ⟨(Nat.le_of_ble_eq_true rfl), (Nat.le_of_ble_eq_true rfl)⟩) hS (fun H locs hP hS => ?_)
      obtain ⟨h24, hf⟩ := hs_ck hf
      obtain ⟨g25, h27, hf⟩ := hs_bv_some hf
      refine hs_callv (va_runV (As := [.int v4, .int r22]) (rest := []) ⟨hx, hb, hml, hown, hts⟩ (ctX3_setLocal l B D E v3 v4 r22 g21 _ h27) (cwV 2 hts (hs_gV (fun _ h => List.mem_cons_of_mem _ h) wq726 wq727 wq728 wq101 wq729) rfl rfl rfl (by decide +kernel) ⟨Nat.le_of_ble_eq_true rfl, Nat.le_of_ble_eq_true rfl⟩) (hs_preV (r := (RX3, TX3, 5)) hP hK h24 (by decide) rfl) rfl rfl hl.1 rfl (lv_room (Nat.le_of_ble_eq_true rfl)) dX6_call_57 ⟨(Nat.le_of_ble_eq_true rfl), (Nat.le_of_ble_eq_true rfl)⟩) hS (fun H locs hP hS => ?_)
      refine lv_iinc (v := (v4 + (-1 : Int32))) (lv' := [(4, .int (v4 + (-1 : Int32))), (0, .ref (B + v0)), (1, .ref (B + v1)), (3, .ref (B + v3))]) hx hb dX6_call_60 hl (k := 3) rfl (by rfl) (by decide) rfl (fun ls hl => ?_)
      refine lv_goto (tgt := 45) hx hb dX6_call_63 (by decide) ?_
      exact ih _ _ hf _ _ _ hP hS (lv_sub hl [1, 2, 3, 0] rfl)

set_option maxHeartbeats 4000000 in
set_option maxRecDepth 100000 in
theorem ctX6_call (l : Launch) (B : Nat) (D : va_G) (E : Nat → ClassId) (v0 : Nat) (v1 : Nat) (g : hs_S) (o : Int32 × hs_S) (hf : fX6_call v0 v1 g = some o) : Met l yX6_call wcX6_call rmX6_call (hs_Pc B D E g [.ref (B + v0), .ref (B + v1)]) (hs_Qi B D E o) (0) (0) (hs_F B) := by
  refine Met.ofW (cc := cX6_call) (maxL := 5) (ret := (some .int)) (by decide) rfl ?_
  intro p e s m args below meth c s₁ Bd hml hv
  obtain ⟨rfl, hP, hK⟩ := hv
  have hx := Bd.exec
  have hb := Bd.bytes
  have hr := Bd.returns
  have hts := atoms_spec (ws := wcX6_call) Bd.pre
  have hown : s.vm.findClass RX6 = some m.cls := findClass_of_methodNamed Bd.named
  have hlocks := Bd.notSynchronized
  have hS : hs_Sx B s.heap s.heap [] := va_S.rf
  have hX : hs_cx cX6_call (some .int) 5 RX6 wcX6_call p s m (List.toArray [.ref (B + v0), .ref (B + v1)]) meth c D E := ⟨hx, hb, hr, hml, hown, hts, hlocks, hK⟩
  have hl := lv_entry ([.ref (B + v0), .ref (B + v1)]) (n := 5) (Nat.le_of_ble_eq_true rfl)
  rw [lg_entry_eq]
  generalize (lg_sl ([.ref (B + v0), .ref (B + v1)]) ++ List.replicate (5 - (lg_sl ([.ref (B + v0), .ref (B + v1)])).length) Slot.unset).toArray = ls at hl ⊢
  have hl : lv_has ls 5 [(0, .ref (B + v0)), (1, .ref (B + v1))] := hl
  have hP : hs_P B D E g s.heap := hP
  unfold fX6_call at hf
  refine lv_aload_n hx hb dX6_call_0 rfl (lv_at hl 0 rfl) ?_
  obtain ⟨h1, hf⟩ := hs_ck hf
  refine hs_geti (C := RX6) (T := TX6) (N := 8) hx hb hts (fun w h => List.mem_cons_of_mem _ (inlX6 w h)) hown hK.1 hP h1 (by decide) rfl 3 (by decide) (hts _ (List.mem_cons_of_mem _ wq701)) (fun _ h => h) rfl dX6_call_1 ?_
  refine lv_bipush (v := 60) hx hb dX6_call_4 (by decide) ?_
  refine lv_icmp_lt (tgt := 11) hx hb dX6_call_6 (by decide) (fun hc => ?_) (fun hc => ?_)
  · replace hf := hs_t hf hc
    refine lv_aload_n hx hb dX6_call_11 rfl (lv_at hl 0 rfl) ?_
    obtain ⟨h2, hf⟩ := hs_ck hf
    refine hs_getr (C := RX6) (T := TX6) (N := 8) hx hb hts (fun w h => List.mem_cons_of_mem _ (inlX6 w h)) hown hK.1 hP h1 (by decide) rfl 0 (by decide) (hts _ (List.mem_cons_of_mem _ wq99)) (fun _ h => h) rfl h2 dX6_call_12 ?_
    refine lv_aload_n hx hb dX6_call_15 rfl (lv_at hl 1 rfl) ?_
    obtain ⟨h3, hf⟩ := hs_ck hf
    obtain ⟨r5, g4, h6, hf⟩ := hs_bd_some hf
    refine hs_calli (va_runV (As := []) (rest := [.ref (B + ((hs_R g v0 0) - 1))]) ⟨hx, hb, hml, hown, hts⟩ (ctX3_operand l B D E v1 g _ h6) (cwV 0 hts (hs_gV (fun _ h => List.mem_cons_of_mem _ h) wq763 wq764 wq765 wq101 wq766) rfl rfl rfl (by decide +kernel) ⟨Nat.le_of_ble_eq_true rfl, Nat.le_of_ble_eq_true rfl⟩) (hs_preV (r := (RX3, TX3, 5)) hP hK h3 (by decide) rfl) rfl rfl hl.1 rfl (lv_room (Nat.le_of_ble_eq_true rfl)) dX6_call_16 ⟨(Nat.le_of_ble_eq_true rfl), (Nat.le_of_ble_eq_true rfl)⟩) hS (fun H locs hP hS => ?_)
    obtain ⟨h7, hf⟩ := hs_ck hf
    obtain ⟨r9, g8, h10, hf⟩ := hs_bd_some hf
    refine hs_callr (va_runV (As := [.int r5]) (rest := []) ⟨hx, hb, hml, hown, hts⟩ (ctX0_method l B D E ((hs_R g v0 0) - 1) r5 g4 _ h10) (cwV 1 hts (hs_gV (fun _ h => List.mem_cons_of_mem _ h) wq107 wq108 wq109 wq15 wq110) rfl rfl rfl (by decide +kernel) ⟨Nat.le_of_ble_eq_true rfl, Nat.le_of_ble_eq_true rfl⟩) (hs_preV (r := (RX0, TX0, 5)) hP hK h7 (by decide) rfl) rfl rfl hl.1 rfl (lv_room (Nat.le_of_ble_eq_true rfl)) dX6_call_19 ⟨(Nat.le_of_ble_eq_true rfl), (Nat.le_of_ble_eq_true rfl)⟩) hS (fun H locs hP hS => ?_)
    refine lv_astore_n (lv' := [(2, .ref (B + r9)), (0, .ref (B + v0)), (1, .ref (B + v1))]) hx hb dX6_call_22 rfl hl (by decide) rfl (fun ls hl => ?_)
    refine lv_aload_n hx hb dX6_call_23 rfl (lv_at hl 1 rfl) ?_
    refine lv_aload_n hx hb dX6_call_24 rfl (lv_at hl 1 rfl) ?_
    obtain ⟨h11, hf⟩ := hs_ck hf
    refine hs_geti (C := RX6) (T := TX6) (N := 8) hx hb hts (fun w h => List.mem_cons_of_mem _ (inlX6 w h)) hown hK.1 hP h11 (by decide) rfl 3 (by decide) (hts _ (List.mem_cons_of_mem _ wq701)) (fun _ h => h) rfl dX6_call_25 ?_
    obtain ⟨r13, g12, h14, hf⟩ := hs_bd_some hf
    refine hs_callr (va_runV (As := [.int (hs_I g8 v0 3)]) (rest := []) ⟨hx, hb, hml, hown, hts⟩ (ctX6_frame l B D E v0 (hs_I g8 v0 3) g8 _ h14) (cwV 1 hts (hs_gV (fun _ h => List.mem_cons_of_mem _ h) wq715 wq716 wq717 wq34 wq718) rfl rfl rfl (by decide +kernel) ⟨Nat.le_of_ble_eq_true rfl, Nat.le_of_ble_eq_true rfl⟩) (hs_preV (r := (RX6, TX6, 8)) hP hK h11 (by decide) rfl) rfl rfl hl.1 rfl (lv_room (Nat.le_of_ble_eq_true rfl)) dX6_call_28 ⟨(Nat.le_of_ble_eq_true rfl), (Nat.le_of_ble_eq_true rfl)⟩) hS (fun H locs hP hS => ?_)
    refine lv_astore_n (lv' := [(3, .ref (B + r13)), (2, .ref (B + r9)), (0, .ref (B + v0)), (1, .ref (B + v1))]) hx hb dX6_call_31 rfl hl (by decide) rfl (fun ls hl => ?_)
    refine lv_aload_n hx hb dX6_call_32 rfl (lv_at hl 0 rfl) ?_
    refine lv_aload_n hx hb dX6_call_33 rfl (lv_at hl 1 rfl) ?_
    obtain ⟨h15, hf⟩ := hs_ck hf
    obtain ⟨g16, h18, hf⟩ := hs_bv_some hf
    refine hs_callv (va_runV (As := [.ref (B + r9)]) (rest := []) ⟨hx, hb, hml, hown, hts⟩ (ctX3_begin l B D E r13 r9 g12 _ h18) (cwV 1 hts (hs_gV (fun _ h => List.mem_cons_of_mem _ h) wq719 wq720 wq721 wq101 wq722) rfl rfl rfl (by decide +kernel) ⟨Nat.le_of_ble_eq_true rfl, Nat.le_of_ble_eq_true rfl⟩) (hs_preV (r := (RX3, TX3, 5)) hP hK h15 (by decide) rfl) rfl rfl hl.1 rfl (lv_room (Nat.le_of_ble_eq_true rfl)) dX6_call_34 ⟨(Nat.le_of_ble_eq_true rfl), (Nat.le_of_ble_eq_true rfl)⟩) hS (fun H locs hP hS => ?_)
    refine lv_aload_n hx hb dX6_call_37 rfl (lv_at hl 1 rfl) ?_
    obtain ⟨h19, hf⟩ := hs_ck hf
    refine hs_geti (C := RX7) (T := TX7) (N := 11) hx hb hts (fun w h => List.mem_cons_of_mem _ (inlX7 w h)) hown hK.1 hP h19 (by decide) rfl 4 (by decide) (hts _ (List.mem_cons_of_mem _ wq700)) (fun _ h => h) rfl dX6_call_38 ?_
    refine lv_iconst (v := 1) hx hb dX6_call_41 (by decide) ?_
    refine lv_isub hx hb dX6_call_42 ?_
    refine lv_istore (lv' := [(4, .int ((hs_I g16 r9 4) - (1 : Int32))), (3, .ref (B + r13)), (2, .ref (B + r9)), (0, .ref (B + v0)), (1, .ref (B + v1))]) hx hb dX6_call_43 hl (by decide) rfl (fun ls hl => ?_)
    obtain ⟨g29, h30, hf⟩ := hs_bv_some hf
    refine wX6_call_45 hX (fun H locs ls hP hS hl => ?_) hs_N _ _ h30 _ _ _ hP hS (lv_sub hl [3, 4, 1, 0] rfl)
    refine lv_aload_n hx hb dX6_call_66 rfl (lv_at hl 0 rfl) ?_
    refine lv_dup hx hb dX6_call_67 rfl ?_
    obtain ⟨h31, hf⟩ := hs_ck hf
    refine hs_geti (C := RX6) (T := TX6) (N := 8) hx hb hts (fun w h => List.mem_cons_of_mem _ (inlX6 w h)) hown hK.1 hP h31 (by decide) rfl 3 (by decide) (hts _ (List.mem_cons_of_mem _ wq701)) (fun _ h => h) rfl dX6_call_68 ?_
    refine lv_iconst (v := 1) hx hb dX6_call_71 (by decide) ?_
    refine lv_iadd hx hb dX6_call_72 ?_
    refine hs_puti (C := RX6) (T := TX6) (N := 8) hx hb hts (fun w h => List.mem_cons_of_mem _ (inlX6 w h)) tyX6 tyX6_ok nmX6 hown hK.1 hP hS h31 (by decide) rfl 3 (by decide) (hts _ (List.mem_cons_of_mem _ wq701)) (fun _ h => h) (Or.inl rfl) rfl rfl rfl dX6_call_73 (fun H locs hP hS => ?_)
    refine lv_iconst (v := 3) hx hb dX6_call_76 (by decide) ?_
    exact hs_iret hx hb hr hlocks rfl hK hP hS hf dX6_call_77
  · replace hf := hs_f hf hc
    refine lv_iconst (v := 1) hx hb dX6_call_9 (by decide) ?_
    exact hs_iret hx hb hr hlocks rfl hK hP hS hf dX6_call_10

theorem dX3_push_0 : decode cX3_push 0 = .ok (.aload_n 0, 1) := by decide +kernel
theorem dX3_push_1 : decode cX3_push 1 = .ok (.getfield 26, 3) := by decide +kernel
theorem dX3_push_4 : decode cX3_push 4 = .ok (.bipush 20, 2) := by decide +kernel
theorem dX3_push_6 : decode cX3_push 6 = .ok (.if_icmp .ge 25, 3) := by decide +kernel
theorem dX3_push_9 : decode cX3_push 9 = .ok (.aload_n 0, 1) := by decide +kernel
theorem dX3_push_10 : decode cX3_push 10 = .ok (.getfield 15, 3) := by decide +kernel
theorem dX3_push_13 : decode cX3_push 13 = .ok (.aload_n 0, 1) := by decide +kernel
theorem dX3_push_14 : decode cX3_push 14 = .ok (.getfield 26, 3) := by decide +kernel
theorem dX3_push_17 : decode cX3_push 17 = .ok (.iload_n 1, 1) := by decide +kernel
theorem dX3_push_18 : decode cX3_push 18 = .ok (.invokestatic 41, 3) := by decide +kernel
theorem dX3_push_21 : decode cX3_push 21 = .ok (.aload_n 0, 1) := by decide +kernel
theorem dX3_push_22 : decode cX3_push 22 = .ok (.dup, 1) := by decide +kernel
theorem dX3_push_23 : decode cX3_push 23 = .ok (.getfield 26, 3) := by decide +kernel
theorem dX3_push_26 : decode cX3_push 26 = .ok (.iconst 1, 1) := by decide +kernel
theorem dX3_push_27 : decode cX3_push 27 = .ok (.iadd, 1) := by decide +kernel
theorem dX3_push_28 : decode cX3_push 28 = .ok (.putfield 26, 3) := by decide +kernel
theorem dX3_push_31 : decode cX3_push 31 = .ok (.return_, 1) := by decide +kernel
abbrev wcX3_push : List Cond := .code yX3_push cX3_push 2 none :: wsL_law
def fX3_push (v0 : Nat) (v1 : Int32) (g : hs_S) : Option (hs_S) :=
  if hs_kd g v0 = 3 then
  if (20 : Int32) ≤ (hs_I g v0 2) then (
    some g
  ) else (
    if ¬ (hs_R g v0 1) = 0 then
    hs_bv (fX9_put ((hs_R g v0 1) - 1) (hs_I g v0 2) v1 g) fun g3 =>
    if hs_kd g3 v0 = 3 then
    some (hs_wI g3 v0 2 ((hs_I g3 v0 2) + (1 : Int32)))
    else none else none
  )
  else none
abbrev rmX3_push : Room := { frames := 1, cells := 0, slots := 0, locals := 22 }
set_option maxHeartbeats 4000000 in
set_option maxRecDepth 100000 in
theorem ctX3_push (l : Launch) (B : Nat) (D : va_G) (E : Nat → ClassId) (v0 : Nat) (v1 : Int32) (g : hs_S) (o : hs_S) (hf : fX3_push v0 v1 g = some o) : Met l yX3_push wcX3_push rmX3_push (hs_Pc B D E g [.ref (B + v0), .int v1]) (hs_Qv B D E o) (0) (0) (hs_F B) := by
  refine Met.ofW (cc := cX3_push) (maxL := 2) (ret := none) (by decide) rfl ?_
  intro p e s m args below meth c s₁ Bd hml hv
  obtain ⟨rfl, hP, hK⟩ := hv
  have hx := Bd.exec
  have hb := Bd.bytes
  have hr := Bd.returns
  have hts := atoms_spec (ws := wcX3_push) Bd.pre
  have hown : s.vm.findClass RX3 = some m.cls := findClass_of_methodNamed Bd.named
  have hlocks := Bd.notSynchronized
  have hS : hs_Sx B s.heap s.heap [] := va_S.rf
  have hX : hs_cx cX3_push none 2 RX3 wcX3_push p s m (List.toArray [.ref (B + v0), .int v1]) meth c D E := ⟨hx, hb, hr, hml, hown, hts, hlocks, hK⟩
  have hl := lv_entry ([.ref (B + v0), .int v1]) (n := 2) (Nat.le_of_ble_eq_true rfl)
  rw [lg_entry_eq]
  generalize (lg_sl ([.ref (B + v0), .int v1]) ++ List.replicate (2 - (lg_sl ([.ref (B + v0), .int v1])).length) Slot.unset).toArray = ls at hl ⊢
  have hl : lv_has ls 2 [(0, .ref (B + v0)), (1, .int v1)] := hl
  have hP : hs_P B D E g s.heap := hP
  unfold fX3_push at hf
  refine lv_aload_n hx hb dX3_push_0 rfl (lv_at hl 0 rfl) ?_
  obtain ⟨h1, hf⟩ := hs_ck hf
  refine hs_geti (C := RX3) (T := TX3) (N := 5) hx hb hts (fun w h => List.mem_cons_of_mem _ (inlX3 w h)) hown hK.1 hP h1 (by decide) rfl 2 (by decide) (hts _ (List.mem_cons_of_mem _ wq724)) (fun _ h => h) rfl dX3_push_1 ?_
  refine lv_bipush (v := 20) hx hb dX3_push_4 (by decide) ?_
  refine lv_icmp_ge (tgt := 31) hx hb dX3_push_6 (by decide) (fun hc => ?_) (fun hc => ?_)
  · replace hf := hs_t hf hc
    exact hs_vret hx hb hr hlocks hK hP hS hf dX3_push_31
  · replace hf := hs_f hf hc
    refine lv_aload_n hx hb dX3_push_9 rfl (lv_at hl 0 rfl) ?_
    obtain ⟨h2, hf⟩ := hs_ck hf
    refine hs_getr (C := RX3) (T := TX3) (N := 5) hx hb hts (fun w h => List.mem_cons_of_mem _ (inlX3 w h)) hown hK.1 hP h1 (by decide) rfl 1 (by decide) (hts _ (List.mem_cons_of_mem _ wq116)) (fun _ h => h) rfl h2 dX3_push_10 ?_
    refine lv_aload_n hx hb dX3_push_13 rfl (lv_at hl 0 rfl) ?_
    refine hs_geti (C := RX3) (T := TX3) (N := 5) hx hb hts (fun w h => List.mem_cons_of_mem _ (inlX3 w h)) hown hK.1 hP h1 (by decide) rfl 2 (by decide) (hts _ (List.mem_cons_of_mem _ wq724)) (fun _ h => h) rfl dX3_push_14 ?_
    refine lv_iload_n hx hb dX3_push_17 rfl (lv_at hl 1 rfl) ?_
    obtain ⟨g3, h5, hf⟩ := hs_bv_some hf
    refine hs_callv (va_runS (As := [.ref (B + ((hs_R g v0 1) - 1)), .int (hs_I g v0 2), .int v1]) (rest := []) ⟨hx, hb, hml, hown, hts⟩ (ctX9_put l B D E ((hs_R g v0 1) - 1) (hs_I g v0 2) v1 g _ h5) (va_cwS 3 hts (hs_gS (fun _ h => List.mem_cons_of_mem _ h) wq730 wq67 wq68 wq69) rfl rfl rfl (by decide +kernel) ⟨Nat.le_of_ble_eq_true rfl, Nat.le_of_ble_eq_true rfl⟩) (hs_pre hP hK) rfl rfl hl.1 rfl (lv_room (Nat.le_of_ble_eq_true rfl)) dX3_push_18 ⟨(Nat.le_of_ble_eq_true rfl), (Nat.le_of_ble_eq_true rfl)⟩) hS (fun H locs hP hS => ?_)
    refine lv_aload_n hx hb dX3_push_21 rfl (lv_at hl 0 rfl) ?_
    refine lv_dup hx hb dX3_push_22 rfl ?_
    obtain ⟨h6, hf⟩ := hs_ck hf
    refine hs_geti (C := RX3) (T := TX3) (N := 5) hx hb hts (fun w h => List.mem_cons_of_mem _ (inlX3 w h)) hown hK.1 hP h6 (by decide) rfl 2 (by decide) (hts _ (List.mem_cons_of_mem _ wq724)) (fun _ h => h) rfl dX3_push_23 ?_
    refine lv_iconst (v := 1) hx hb dX3_push_26 (by decide) ?_
    refine lv_iadd hx hb dX3_push_27 ?_
    refine hs_puti (C := RX3) (T := TX3) (N := 5) hx hb hts (fun w h => List.mem_cons_of_mem _ (inlX3 w h)) tyX3 tyX3_ok nmX3 hown hK.1 hP hS h6 (by decide) rfl 2 (by decide) (hts _ (List.mem_cons_of_mem _ wq724)) (fun _ h => h) (Or.inl rfl) rfl rfl rfl dX3_push_28 (fun H locs hP hS => ?_)
    exact hs_vret hx hb hr hlocks hK hP hS hf dX3_push_31

theorem dX6_leave_0 : decode cX6_leave 0 = .ok (.aload_n 0, 1) := by decide +kernel
theorem dX6_leave_1 : decode cX6_leave 1 = .ok (.dup, 1) := by decide +kernel
theorem dX6_leave_2 : decode cX6_leave 2 = .ok (.getfield 40, 3) := by decide +kernel
theorem dX6_leave_5 : decode cX6_leave 5 = .ok (.iconst 1, 1) := by decide +kernel
theorem dX6_leave_6 : decode cX6_leave 6 = .ok (.isub, 1) := by decide +kernel
theorem dX6_leave_7 : decode cX6_leave 7 = .ok (.putfield 40, 3) := by decide +kernel
theorem dX6_leave_10 : decode cX6_leave 10 = .ok (.aload_n 0, 1) := by decide +kernel
theorem dX6_leave_11 : decode cX6_leave 11 = .ok (.getfield 40, 3) := by decide +kernel
theorem dX6_leave_14 : decode cX6_leave 14 = .ok (.ifCond .gt 10, 3) := by decide +kernel
theorem dX6_leave_17 : decode cX6_leave 17 = .ok (.aload_n 0, 1) := by decide +kernel
theorem dX6_leave_18 : decode cX6_leave 18 = .ok (.iload_n 1, 1) := by decide +kernel
theorem dX6_leave_19 : decode cX6_leave 19 = .ok (.putfield 44, 3) := by decide +kernel
theorem dX6_leave_22 : decode cX6_leave 22 = .ok (.iconst 0, 1) := by decide +kernel
theorem dX6_leave_23 : decode cX6_leave 23 = .ok (.ireturn, 1) := by decide +kernel
theorem dX6_leave_24 : decode cX6_leave 24 = .ok (.aload_n 0, 1) := by decide +kernel
theorem dX6_leave_25 : decode cX6_leave 25 = .ok (.aload_n 0, 1) := by decide +kernel
theorem dX6_leave_26 : decode cX6_leave 26 = .ok (.getfield 40, 3) := by decide +kernel
theorem dX6_leave_29 : decode cX6_leave 29 = .ok (.iconst 1, 1) := by decide +kernel
theorem dX6_leave_30 : decode cX6_leave 30 = .ok (.isub, 1) := by decide +kernel
theorem dX6_leave_31 : decode cX6_leave 31 = .ok (.invokevirtual 59, 3) := by decide +kernel
theorem dX6_leave_34 : decode cX6_leave 34 = .ok (.astore_n 2, 1) := by decide +kernel
theorem dX6_leave_35 : decode cX6_leave 35 = .ok (.aload_n 2, 1) := by decide +kernel
theorem dX6_leave_36 : decode cX6_leave 36 = .ok (.iload_n 1, 1) := by decide +kernel
theorem dX6_leave_37 : decode cX6_leave 37 = .ok (.invokevirtual 138, 3) := by decide +kernel
theorem dX6_leave_40 : decode cX6_leave 40 = .ok (.aload_n 2, 1) := by decide +kernel
theorem dX6_leave_41 : decode cX6_leave 41 = .ok (.dup, 1) := by decide +kernel
theorem dX6_leave_42 : decode cX6_leave 42 = .ok (.getfield 89, 3) := by decide +kernel
theorem dX6_leave_45 : decode cX6_leave 45 = .ok (.sipush 184, 3) := by decide +kernel
theorem dX6_leave_48 : decode cX6_leave 48 = .ok (.invokestatic 132, 3) := by decide +kernel
theorem dX6_leave_51 : decode cX6_leave 51 = .ok (.iadd, 1) := by decide +kernel
theorem dX6_leave_52 : decode cX6_leave 52 = .ok (.putfield 89, 3) := by decide +kernel
theorem dX6_leave_55 : decode cX6_leave 55 = .ok (.iconst 3, 1) := by decide +kernel
theorem dX6_leave_56 : decode cX6_leave 56 = .ok (.ireturn, 1) := by decide +kernel
abbrev wcX6_leave : List Cond := .code yX6_leave cX6_leave 3 (some .int) :: wsL_law
def fX6_leave (v0 : Nat) (v1 : Int32) (g : hs_S) : Option (Int32 × hs_S) :=
  if hs_kd g v0 = 5 then
  if 0 < (hs_I (hs_wI g v0 3 ((hs_I g v0 3) - (1 : Int32))) v0 3) then (
    hs_bd (fX6_frame v0 ((hs_I (hs_wI g v0 3 ((hs_I g v0 3) - (1 : Int32))) v0 3) - (1 : Int32)) (hs_wI g v0 3 ((hs_I g v0 3) - (1 : Int32)))) fun r3 g2 =>
    if hs_kd g2 r3 = 3 then
    hs_bv (fX3_push r3 v1 g2) fun g6 =>
    if hs_kd g6 r3 = 3 then
    hs_bd (fX4_sizeOf (184 : Int32) g6) fun r11 g10 =>
    if hs_kd g10 r3 = 3 then
    some ((3 : Int32), (hs_wI g10 r3 4 ((hs_I g6 r3 4) + r11)))
    else none else none else none
  ) else (
    some ((0 : Int32), (hs_wI (hs_wI g v0 3 ((hs_I g v0 3) - (1 : Int32))) v0 5 v1))
  )
  else none
abbrev rmX6_leave : Room := { frames := 2, cells := 0, slots := 0, locals := 43 }
set_option maxHeartbeats 4000000 in
set_option maxRecDepth 100000 in
theorem ctX6_leave (l : Launch) (B : Nat) (D : va_G) (E : Nat → ClassId) (v0 : Nat) (v1 : Int32) (g : hs_S) (o : Int32 × hs_S) (hf : fX6_leave v0 v1 g = some o) : Met l yX6_leave wcX6_leave rmX6_leave (hs_Pc B D E g [.ref (B + v0), .int v1]) (hs_Qi B D E o) (0) (0) (hs_F B) := by
  refine Met.ofW (cc := cX6_leave) (maxL := 3) (ret := (some .int)) (by decide) rfl ?_
  intro p e s m args below meth c s₁ Bd hml hv
  obtain ⟨rfl, hP, hK⟩ := hv
  have hx := Bd.exec
  have hb := Bd.bytes
  have hr := Bd.returns
  have hts := atoms_spec (ws := wcX6_leave) Bd.pre
  have hown : s.vm.findClass RX6 = some m.cls := findClass_of_methodNamed Bd.named
  have hlocks := Bd.notSynchronized
  have hS : hs_Sx B s.heap s.heap [] := va_S.rf
  have hX : hs_cx cX6_leave (some .int) 3 RX6 wcX6_leave p s m (List.toArray [.ref (B + v0), .int v1]) meth c D E := ⟨hx, hb, hr, hml, hown, hts, hlocks, hK⟩
  have hl := lv_entry ([.ref (B + v0), .int v1]) (n := 3) (Nat.le_of_ble_eq_true rfl)
  rw [lg_entry_eq]
  generalize (lg_sl ([.ref (B + v0), .int v1]) ++ List.replicate (3 - (lg_sl ([.ref (B + v0), .int v1])).length) Slot.unset).toArray = ls at hl ⊢
  have hl : lv_has ls 3 [(0, .ref (B + v0)), (1, .int v1)] := hl
  have hP : hs_P B D E g s.heap := hP
  unfold fX6_leave at hf
  refine lv_aload_n hx hb dX6_leave_0 rfl (lv_at hl 0 rfl) ?_
  refine lv_dup hx hb dX6_leave_1 rfl ?_
  obtain ⟨h1, hf⟩ := hs_ck hf
  refine hs_geti (C := RX6) (T := TX6) (N := 8) hx hb hts (fun w h => List.mem_cons_of_mem _ (inlX6 w h)) hown hK.1 hP h1 (by decide) rfl 3 (by decide) (hts _ (List.mem_cons_of_mem _ wq701)) (fun _ h => h) rfl dX6_leave_2 ?_
  refine lv_iconst (v := 1) hx hb dX6_leave_5 (by decide) ?_
  refine lv_isub hx hb dX6_leave_6 ?_
  refine hs_puti (C := RX6) (T := TX6) (N := 8) hx hb hts (fun w h => List.mem_cons_of_mem _ (inlX6 w h)) tyX6 tyX6_ok nmX6 hown hK.1 hP hS h1 (by decide) rfl 3 (by decide) (hts _ (List.mem_cons_of_mem _ wq701)) (fun _ h => h) (Or.inl rfl) rfl rfl rfl dX6_leave_7 (fun H locs hP hS => ?_)
  refine lv_aload_n hx hb dX6_leave_10 rfl (lv_at hl 0 rfl) ?_
  refine hs_geti (C := RX6) (T := TX6) (N := 8) hx hb hts (fun w h => List.mem_cons_of_mem _ (inlX6 w h)) hown hK.1 hP h1 (by decide) rfl 3 (by decide) (hts _ (List.mem_cons_of_mem _ wq701)) (fun _ h => h) rfl dX6_leave_11 ?_
  refine lv_if_gt (tgt := 24) hx hb dX6_leave_14 (by decide) (fun hc => ?_) (fun hc => ?_)
  · replace hf := hs_t hf hc
    refine lv_aload_n hx hb dX6_leave_24 rfl (lv_at hl 0 rfl) ?_
    refine lv_aload_n hx hb dX6_leave_25 rfl (lv_at hl 0 rfl) ?_
    refine hs_geti (C := RX6) (T := TX6) (N := 8) hx hb hts (fun w h => List.mem_cons_of_mem _ (inlX6 w h)) hown hK.1 hP h1 (by decide) rfl 3 (by decide) (hts _ (List.mem_cons_of_mem _ wq701)) (fun _ h => h) rfl dX6_leave_26 ?_
    refine lv_iconst (v := 1) hx hb dX6_leave_29 (by decide) ?_
    refine lv_isub hx hb dX6_leave_30 ?_
    obtain ⟨r3, g2, h4, hf⟩ := hs_bd_some hf
    refine hs_callr (va_runV (As := [.int ((hs_I (hs_wI g v0 3 ((hs_I g v0 3) - (1 : Int32))) v0 3) - (1 : Int32))]) (rest := []) ⟨hx, hb, hml, hown, hts⟩ (ctX6_frame l B D E v0 ((hs_I (hs_wI g v0 3 ((hs_I g v0 3) - (1 : Int32))) v0 3) - (1 : Int32)) (hs_wI g v0 3 ((hs_I g v0 3) - (1 : Int32))) _ h4) (cwV 1 hts (hs_gV (fun _ h => List.mem_cons_of_mem _ h) wq715 wq716 wq717 wq34 wq718) rfl rfl rfl (by decide +kernel) ⟨Nat.le_of_ble_eq_true rfl, Nat.le_of_ble_eq_true rfl⟩) (hs_preV (r := (RX6, TX6, 8)) hP hK h1 (by decide) rfl) rfl rfl hl.1 rfl (lv_room (Nat.le_of_ble_eq_true rfl)) dX6_leave_31 ⟨(Nat.le_of_ble_eq_true rfl), (Nat.le_of_ble_eq_true rfl)⟩) hS (fun H locs hP hS => ?_)
    refine lv_astore_n (lv' := [(2, .ref (B + r3)), (0, .ref (B + v0)), (1, .int v1)]) hx hb dX6_leave_34 rfl hl (by decide) rfl (fun ls hl => ?_)
    refine lv_aload_n hx hb dX6_leave_35 rfl (lv_at hl 0 rfl) ?_
    refine lv_iload_n hx hb dX6_leave_36 rfl (lv_at hl 2 rfl) ?_
    obtain ⟨h5, hf⟩ := hs_ck hf
    obtain ⟨g6, h8, hf⟩ := hs_bv_some hf
    refine hs_callv (va_runV (As := [.int v1]) (rest := []) ⟨hx, hb, hml, hown, hts⟩ (ctX3_push l B D E r3 v1 g2 _ h8) (cwV 1 hts (hs_gV (fun _ h => List.mem_cons_of_mem _ h) wq775 wq776 wq777 wq101 wq778) rfl rfl rfl (by decide +kernel) ⟨Nat.le_of_ble_eq_true rfl, Nat.le_of_ble_eq_true rfl⟩) (hs_preV (r := (RX3, TX3, 5)) hP hK h5 (by decide) rfl) rfl rfl hl.1 rfl (lv_room (Nat.le_of_ble_eq_true rfl)) dX6_leave_37 ⟨(Nat.le_of_ble_eq_true rfl), (Nat.le_of_ble_eq_true rfl)⟩) hS (fun H locs hP hS => ?_)
    refine lv_aload_n hx hb dX6_leave_40 rfl (lv_at hl 0 rfl) ?_
    refine lv_dup hx hb dX6_leave_41 rfl ?_
    obtain ⟨h9, hf⟩ := hs_ck hf
    refine hs_geti (C := RX3) (T := TX3) (N := 5) hx hb hts (fun w h => List.mem_cons_of_mem _ (inlX3 w h)) hown hK.1 hP h9 (by decide) rfl 4 (by decide) (hts _ (List.mem_cons_of_mem _ wq735)) (fun _ h => h) rfl dX6_leave_42 ?_
    refine lv_sipush (v := 184) hx hb dX6_leave_45 (by decide) ?_
    obtain ⟨r11, g10, h12, hf⟩ := hs_bd_some hf
    refine hs_calli (va_runS (As := [.int (184 : Int32)]) (rest := [.int (hs_I g6 r3 4), .ref (B + r3)]) ⟨hx, hb, hml, hown, hts⟩ (ctX4_sizeOf l B D E (184 : Int32) g6 _ h12) (va_cwS 1 hts (hs_gS (fun _ h => List.mem_cons_of_mem _ h) wq779 wq257 wq258 wq259) rfl rfl rfl (by decide +kernel) ⟨Nat.le_of_ble_eq_true rfl, Nat.le_of_ble_eq_true rfl⟩) (hs_pre hP hK) rfl rfl hl.1 rfl (lv_room (Nat.le_of_ble_eq_true rfl)) dX6_leave_48 ⟨(Nat.le_of_ble_eq_true rfl), (Nat.le_of_ble_eq_true rfl)⟩) hS (fun H locs hP hS => ?_)
    refine lv_iadd hx hb dX6_leave_51 ?_
    obtain ⟨h13, hf⟩ := hs_ck hf
    refine hs_puti (C := RX3) (T := TX3) (N := 5) hx hb hts (fun w h => List.mem_cons_of_mem _ (inlX3 w h)) tyX3 tyX3_ok nmX3 hown hK.1 hP hS h13 (by decide) rfl 4 (by decide) (hts _ (List.mem_cons_of_mem _ wq735)) (fun _ h => h) (Or.inl rfl) rfl rfl rfl dX6_leave_52 (fun H locs hP hS => ?_)
    refine lv_iconst (v := 3) hx hb dX6_leave_55 (by decide) ?_
    exact hs_iret hx hb hr hlocks rfl hK hP hS hf dX6_leave_56
  · replace hf := hs_f hf hc
    refine lv_aload_n hx hb dX6_leave_17 rfl (lv_at hl 0 rfl) ?_
    refine lv_iload_n hx hb dX6_leave_18 rfl (lv_at hl 1 rfl) ?_
    refine hs_puti (C := RX6) (T := TX6) (N := 8) hx hb hts (fun w h => List.mem_cons_of_mem _ (inlX6 w h)) tyX6 tyX6_ok nmX6 hown hK.1 hP hS h1 (by decide) rfl 5 (by decide) (hts _ (List.mem_cons_of_mem _ wq707)) (fun _ h => h) (Or.inl rfl) rfl rfl rfl dX6_leave_19 (fun H locs hP hS => ?_)
    refine lv_iconst (v := 0) hx hb dX6_leave_22 (by decide) ?_
    exact hs_iret hx hb hr hlocks rfl hK hP hS hf dX6_leave_23

theorem dX4_isTaken_0 : decode cX4_isTaken 0 = .ok (.iload_n 0, 1) := by decide +kernel
theorem dX4_isTaken_1 : decode cX4_isTaken 1 = .ok (.tableswitch 85 153 157 #[35, 45, 55, 65, 75], 35) := by decide +kernel
theorem dX4_isTaken_36 : decode cX4_isTaken 36 = .ok (.iload_n 1, 1) := by decide +kernel
theorem dX4_isTaken_37 : decode cX4_isTaken 37 = .ok (.ifCond .ne 7, 3) := by decide +kernel
theorem dX4_isTaken_40 : decode cX4_isTaken 40 = .ok (.iconst 1, 1) := by decide +kernel
theorem dX4_isTaken_41 : decode cX4_isTaken 41 = .ok (.goto 4, 3) := by decide +kernel
theorem dX4_isTaken_44 : decode cX4_isTaken 44 = .ok (.iconst 0, 1) := by decide +kernel
theorem dX4_isTaken_45 : decode cX4_isTaken 45 = .ok (.ireturn, 1) := by decide +kernel
theorem dX4_isTaken_46 : decode cX4_isTaken 46 = .ok (.iload_n 1, 1) := by decide +kernel
theorem dX4_isTaken_47 : decode cX4_isTaken 47 = .ok (.ifCond .eq 7, 3) := by decide +kernel
theorem dX4_isTaken_50 : decode cX4_isTaken 50 = .ok (.iconst 1, 1) := by decide +kernel
theorem dX4_isTaken_51 : decode cX4_isTaken 51 = .ok (.goto 4, 3) := by decide +kernel
theorem dX4_isTaken_54 : decode cX4_isTaken 54 = .ok (.iconst 0, 1) := by decide +kernel
theorem dX4_isTaken_55 : decode cX4_isTaken 55 = .ok (.ireturn, 1) := by decide +kernel
theorem dX4_isTaken_56 : decode cX4_isTaken 56 = .ok (.iload_n 1, 1) := by decide +kernel
theorem dX4_isTaken_57 : decode cX4_isTaken 57 = .ok (.ifCond .ge 7, 3) := by decide +kernel
theorem dX4_isTaken_60 : decode cX4_isTaken 60 = .ok (.iconst 1, 1) := by decide +kernel
theorem dX4_isTaken_61 : decode cX4_isTaken 61 = .ok (.goto 4, 3) := by decide +kernel
theorem dX4_isTaken_64 : decode cX4_isTaken 64 = .ok (.iconst 0, 1) := by decide +kernel
theorem dX4_isTaken_65 : decode cX4_isTaken 65 = .ok (.ireturn, 1) := by decide +kernel
theorem dX4_isTaken_66 : decode cX4_isTaken 66 = .ok (.iload_n 1, 1) := by decide +kernel
theorem dX4_isTaken_67 : decode cX4_isTaken 67 = .ok (.ifCond .lt 7, 3) := by decide +kernel
theorem dX4_isTaken_70 : decode cX4_isTaken 70 = .ok (.iconst 1, 1) := by decide +kernel
theorem dX4_isTaken_71 : decode cX4_isTaken 71 = .ok (.goto 4, 3) := by decide +kernel
theorem dX4_isTaken_74 : decode cX4_isTaken 74 = .ok (.iconst 0, 1) := by decide +kernel
theorem dX4_isTaken_75 : decode cX4_isTaken 75 = .ok (.ireturn, 1) := by decide +kernel
theorem dX4_isTaken_76 : decode cX4_isTaken 76 = .ok (.iload_n 1, 1) := by decide +kernel
theorem dX4_isTaken_77 : decode cX4_isTaken 77 = .ok (.ifCond .le 7, 3) := by decide +kernel
theorem dX4_isTaken_80 : decode cX4_isTaken 80 = .ok (.iconst 1, 1) := by decide +kernel
theorem dX4_isTaken_81 : decode cX4_isTaken 81 = .ok (.goto 4, 3) := by decide +kernel
theorem dX4_isTaken_84 : decode cX4_isTaken 84 = .ok (.iconst 0, 1) := by decide +kernel
theorem dX4_isTaken_85 : decode cX4_isTaken 85 = .ok (.ireturn, 1) := by decide +kernel
theorem dX4_isTaken_86 : decode cX4_isTaken 86 = .ok (.iload_n 1, 1) := by decide +kernel
theorem dX4_isTaken_87 : decode cX4_isTaken 87 = .ok (.ifCond .gt 7, 3) := by decide +kernel
theorem dX4_isTaken_90 : decode cX4_isTaken 90 = .ok (.iconst 1, 1) := by decide +kernel
theorem dX4_isTaken_91 : decode cX4_isTaken 91 = .ok (.goto 4, 3) := by decide +kernel
theorem dX4_isTaken_94 : decode cX4_isTaken 94 = .ok (.iconst 0, 1) := by decide +kernel
theorem dX4_isTaken_95 : decode cX4_isTaken 95 = .ok (.ireturn, 1) := by decide +kernel
abbrev wcX4_isTaken : List Cond := .code yX4_isTaken cX4_isTaken 2 (some .boolean) :: wsL_law
def fX4_isTaken (v0 : Int32) (v1 : Int32) (g : hs_S) : Option (Int32 × hs_S) :=
  if v0 = (153 : Int32) then (
    if v1 = 0 then (
      some ((1 : Int32), g)
    ) else (
      some ((0 : Int32), g)
    )
  ) else (
  if v0 = (154 : Int32) then (
    if v1 = 0 then (
      some ((0 : Int32), g)
    ) else (
      some ((1 : Int32), g)
    )
  ) else (
  if v0 = (155 : Int32) then (
    if 0 ≤ v1 then (
      some ((0 : Int32), g)
    ) else (
      some ((1 : Int32), g)
    )
  ) else (
  if v0 = (156 : Int32) then (
    if v1 < 0 then (
      some ((0 : Int32), g)
    ) else (
      some ((1 : Int32), g)
    )
  ) else (
  if v0 = (157 : Int32) then (
    if v1 ≤ 0 then (
      some ((0 : Int32), g)
    ) else (
      some ((1 : Int32), g)
    )
  ) else (
    if 0 < v1 then (
      some ((0 : Int32), g)
    ) else (
      some ((1 : Int32), g)
    )
  )))))
abbrev rmX4_isTaken : Room := { frames := 0, cells := 0, slots := 0, locals := 0 }
set_option maxHeartbeats 4000000 in
set_option maxRecDepth 100000 in
theorem ctX4_isTaken (l : Launch) (B : Nat) (D : va_G) (E : Nat → ClassId) (v0 : Int32) (v1 : Int32) (g : hs_S) (o : Int32 × hs_S) (hf : fX4_isTaken v0 v1 g = some o) : Met l yX4_isTaken wcX4_isTaken rmX4_isTaken (hs_Pc B D E g [.int v0, .int v1]) (hs_Qi B D E o) (0) (0) (hs_F B) := by
  refine Met.ofW (cc := cX4_isTaken) (maxL := 2) (ret := (some .boolean)) (by decide) rfl ?_
  intro p e s m args below meth c s₁ Bd hml hv
  obtain ⟨rfl, hP, hK⟩ := hv
  have hx := Bd.exec
  have hb := Bd.bytes
  have hr := Bd.returns
  have hts := atoms_spec (ws := wcX4_isTaken) Bd.pre
  have hown : s.vm.findClass RX4 = some m.cls := findClass_of_methodNamed Bd.named
  have hlocks := Bd.notSynchronized
  have hS : hs_Sx B s.heap s.heap [] := va_S.rf
  have hX : hs_cx cX4_isTaken (some .boolean) 2 RX4 wcX4_isTaken p s m (List.toArray [.int v0, .int v1]) meth c D E := ⟨hx, hb, hr, hml, hown, hts, hlocks, hK⟩
  have hl := lv_entry ([.int v0, .int v1]) (n := 2) (Nat.le_of_ble_eq_true rfl)
  rw [lg_entry_eq]
  generalize (lg_sl ([.int v0, .int v1]) ++ List.replicate (2 - (lg_sl ([.int v0, .int v1])).length) Slot.unset).toArray = ls at hl ⊢
  have hl : lv_has ls 2 [(0, .int v0), (1, .int v1)] := hl
  have hP : hs_P B D E g s.heap := hP
  unfold fX4_isTaken at hf
  refine lv_iload_n hx hb dX4_isTaken_0 rfl (lv_at hl 0 rfl) ?_
  by_cases hc : v0 = (153 : Int32)
  · replace hf := hs_t hf hc
    refine lv_tableIn (off := 35) (tgt := 36) hx hb dX4_isTaken_1 (by rw [hc]; decide +kernel) (by rw [hc]; decide +kernel) (by rw [hc]; first | done | decide +kernel) (by decide) ?_
    refine lv_iload_n hx hb dX4_isTaken_36 rfl (lv_at hl 1 rfl) ?_
    refine lv_if_ne (tgt := 44) hx hb dX4_isTaken_37 (by decide) (fun hc => ?_) (fun hc => ?_)
    · replace hf := hs_f hf hc
      refine lv_iconst (v := 0) hx hb dX4_isTaken_44 (by decide) ?_
      exact hs_iret hx hb hr hlocks (hs_01_nar (rfl)) hK hP hS hf dX4_isTaken_45
    · replace hf := hs_t hf hc
      refine lv_iconst (v := 1) hx hb dX4_isTaken_40 (by decide) ?_
      refine lv_goto (tgt := 45) hx hb dX4_isTaken_41 (by decide) ?_
      exact hs_iret hx hb hr hlocks (hs_01_nar (rfl)) hK hP hS hf dX4_isTaken_45
  have hn0 := hc
  replace hf := hs_f hf hc
  clear hc
  by_cases hc : v0 = (154 : Int32)
  · replace hf := hs_t hf hc
    refine lv_tableIn (off := 45) (tgt := 46) hx hb dX4_isTaken_1 (by rw [hc]; decide +kernel) (by rw [hc]; decide +kernel) (by rw [hc]; first | done | decide +kernel) (by decide) ?_
    refine lv_iload_n hx hb dX4_isTaken_46 rfl (lv_at hl 1 rfl) ?_
    refine lv_if_eq (tgt := 54) hx hb dX4_isTaken_47 (by decide) (fun hc => ?_) (fun hc => ?_)
    · replace hf := hs_t hf hc
      refine lv_iconst (v := 0) hx hb dX4_isTaken_54 (by decide) ?_
      exact hs_iret hx hb hr hlocks (hs_01_nar (rfl)) hK hP hS hf dX4_isTaken_55
    · replace hf := hs_f hf hc
      refine lv_iconst (v := 1) hx hb dX4_isTaken_50 (by decide) ?_
      refine lv_goto (tgt := 55) hx hb dX4_isTaken_51 (by decide) ?_
      exact hs_iret hx hb hr hlocks (hs_01_nar (rfl)) hK hP hS hf dX4_isTaken_55
  have hn1 := hc
  replace hf := hs_f hf hc
  clear hc
  by_cases hc : v0 = (155 : Int32)
  · replace hf := hs_t hf hc
    refine lv_tableIn (off := 55) (tgt := 56) hx hb dX4_isTaken_1 (by rw [hc]; decide +kernel) (by rw [hc]; decide +kernel) (by rw [hc]; first | done | decide +kernel) (by decide) ?_
    refine lv_iload_n hx hb dX4_isTaken_56 rfl (lv_at hl 1 rfl) ?_
    refine lv_if_ge (tgt := 64) hx hb dX4_isTaken_57 (by decide) (fun hc => ?_) (fun hc => ?_)
    · replace hf := hs_t hf hc
      refine lv_iconst (v := 0) hx hb dX4_isTaken_64 (by decide) ?_
      exact hs_iret hx hb hr hlocks (hs_01_nar (rfl)) hK hP hS hf dX4_isTaken_65
    · replace hf := hs_f hf hc
      refine lv_iconst (v := 1) hx hb dX4_isTaken_60 (by decide) ?_
      refine lv_goto (tgt := 65) hx hb dX4_isTaken_61 (by decide) ?_
      exact hs_iret hx hb hr hlocks (hs_01_nar (rfl)) hK hP hS hf dX4_isTaken_65
  have hn2 := hc
  replace hf := hs_f hf hc
  clear hc
  by_cases hc : v0 = (156 : Int32)
  · replace hf := hs_t hf hc
    refine lv_tableIn (off := 65) (tgt := 66) hx hb dX4_isTaken_1 (by rw [hc]; decide +kernel) (by rw [hc]; decide +kernel) (by rw [hc]; first | done | decide +kernel) (by decide) ?_
    refine lv_iload_n hx hb dX4_isTaken_66 rfl (lv_at hl 1 rfl) ?_
    refine lv_if_lt (tgt := 74) hx hb dX4_isTaken_67 (by decide) (fun hc => ?_) (fun hc => ?_)
    · replace hf := hs_t hf hc
      refine lv_iconst (v := 0) hx hb dX4_isTaken_74 (by decide) ?_
      exact hs_iret hx hb hr hlocks (hs_01_nar (rfl)) hK hP hS hf dX4_isTaken_75
    · replace hf := hs_f hf hc
      refine lv_iconst (v := 1) hx hb dX4_isTaken_70 (by decide) ?_
      refine lv_goto (tgt := 75) hx hb dX4_isTaken_71 (by decide) ?_
      exact hs_iret hx hb hr hlocks (hs_01_nar (rfl)) hK hP hS hf dX4_isTaken_75
  have hn3 := hc
  replace hf := hs_f hf hc
  clear hc
  by_cases hc : v0 = (157 : Int32)
  · replace hf := hs_t hf hc
    refine lv_tableIn (off := 75) (tgt := 76) hx hb dX4_isTaken_1 (by rw [hc]; decide +kernel) (by rw [hc]; decide +kernel) (by rw [hc]; first | done | decide +kernel) (by decide) ?_
    refine lv_iload_n hx hb dX4_isTaken_76 rfl (lv_at hl 1 rfl) ?_
    refine lv_if_le (tgt := 84) hx hb dX4_isTaken_77 (by decide) (fun hc => ?_) (fun hc => ?_)
    · replace hf := hs_t hf hc
      refine lv_iconst (v := 0) hx hb dX4_isTaken_84 (by decide) ?_
      exact hs_iret hx hb hr hlocks (hs_01_nar (rfl)) hK hP hS hf dX4_isTaken_85
    · replace hf := hs_f hf hc
      refine lv_iconst (v := 1) hx hb dX4_isTaken_80 (by decide) ?_
      refine lv_goto (tgt := 85) hx hb dX4_isTaken_81 (by decide) ?_
      exact hs_iret hx hb hr hlocks (hs_01_nar (rfl)) hK hP hS hf dX4_isTaken_85
  have hn4 := hc
  replace hf := hs_f hf hc
  clear hc
  refine lv_tableOut (tgt := 86) hx hb dX4_isTaken_1 (by have := lv_neT (a := 153) hn0 rfl; have := lv_neT (a := 154) hn1 rfl; have := lv_neT (a := 155) hn2 rfl; have := lv_neT (a := 156) hn3 rfl; have := lv_neT (a := 157) hn4 rfl; omega) (by decide) ?_
  refine lv_iload_n hx hb dX4_isTaken_86 rfl (lv_at hl 1 rfl) ?_
  refine lv_if_gt (tgt := 94) hx hb dX4_isTaken_87 (by decide) (fun hc => ?_) (fun hc => ?_)
  · replace hf := hs_t hf hc
    refine lv_iconst (v := 0) hx hb dX4_isTaken_94 (by decide) ?_
    exact hs_iret hx hb hr hlocks (hs_01_nar (rfl)) hK hP hS hf dX4_isTaken_95
  · replace hf := hs_f hf hc
    refine lv_iconst (v := 1) hx hb dX4_isTaken_90 (by decide) ?_
    refine lv_goto (tgt := 95) hx hb dX4_isTaken_91 (by decide) ?_
    exact hs_iret hx hb hr hlocks (hs_01_nar (rfl)) hK hP hS hf dX4_isTaken_95

theorem dX6_jump_0 : decode cX6_jump 0 = .ok (.iload_n 2, 1) := by decide +kernel
theorem dX6_jump_1 : decode cX6_jump 1 = .ok (.invokestatic 148, 3) := by decide +kernel
theorem dX6_jump_4 : decode cX6_jump 4 = .ok (.ifCond .eq 14, 3) := by decide +kernel
theorem dX6_jump_7 : decode cX6_jump 7 = .ok (.iload_n 2, 1) := by decide +kernel
theorem dX6_jump_8 : decode cX6_jump 8 = .ok (.aload_n 1, 1) := by decide +kernel
theorem dX6_jump_9 : decode cX6_jump 9 = .ok (.invokevirtual 112, 3) := by decide +kernel
theorem dX6_jump_12 : decode cX6_jump 12 = .ok (.invokestatic 151, 3) := by decide +kernel
theorem dX6_jump_15 : decode cX6_jump 15 = .ok (.ifCond .eq 7, 3) := by decide +kernel
theorem dX6_jump_18 : decode cX6_jump 18 = .ok (.iconst 1, 1) := by decide +kernel
theorem dX6_jump_19 : decode cX6_jump 19 = .ok (.goto 4, 3) := by decide +kernel
theorem dX6_jump_22 : decode cX6_jump 22 = .ok (.iconst 0, 1) := by decide +kernel
theorem dX6_jump_23 : decode cX6_jump 23 = .ok (.istore_n 3, 1) := by decide +kernel
theorem dX6_jump_24 : decode cX6_jump 24 = .ok (.aload_n 1, 1) := by decide +kernel
theorem dX6_jump_25 : decode cX6_jump 25 = .ok (.getfield 89, 3) := by decide +kernel
theorem dX6_jump_28 : decode cX6_jump 28 = .ok (.iload_n 2, 1) := by decide +kernel
theorem dX6_jump_29 : decode cX6_jump 29 = .ok (.invokestatic 132, 3) := by decide +kernel
theorem dX6_jump_32 : decode cX6_jump 32 = .ok (.iadd, 1) := by decide +kernel
theorem dX6_jump_33 : decode cX6_jump 33 = .ok (.istore 4, 2) := by decide +kernel
theorem dX6_jump_35 : decode cX6_jump 35 = .ok (.aload_n 1, 1) := by decide +kernel
theorem dX6_jump_36 : decode cX6_jump 36 = .ok (.iload_n 3, 1) := by decide +kernel
theorem dX6_jump_37 : decode cX6_jump 37 = .ok (.ifCond .eq 17, 3) := by decide +kernel
theorem dX6_jump_40 : decode cX6_jump 40 = .ok (.aload_n 1, 1) := by decide +kernel
theorem dX6_jump_41 : decode cX6_jump 41 = .ok (.getfield 66, 3) := by decide +kernel
theorem dX6_jump_44 : decode cX6_jump 44 = .ok (.aload_n 1, 1) := by decide +kernel
theorem dX6_jump_45 : decode cX6_jump 45 = .ok (.getfield 89, 3) := by decide +kernel
theorem dX6_jump_48 : decode cX6_jump 48 = .ok (.invokevirtual 155, 3) := by decide +kernel
theorem dX6_jump_51 : decode cX6_jump 51 = .ok (.goto 5, 3) := by decide +kernel
theorem dX6_jump_54 : decode cX6_jump 54 = .ok (.iload 4, 2) := by decide +kernel
theorem dX6_jump_56 : decode cX6_jump 56 = .ok (.putfield 89, 3) := by decide +kernel
theorem dX6_jump_59 : decode cX6_jump 59 = .ok (.iconst 3, 1) := by decide +kernel
theorem dX6_jump_60 : decode cX6_jump 60 = .ok (.ireturn, 1) := by decide +kernel
abbrev wcX6_jump : List Cond := .code yX6_jump cX6_jump 5 (some .int) :: wsL_law
def jX6_jump_23 (v1 : Nat) (v2 : Int32) (s0 : Int32) (g : hs_S) : Option (Int32 × hs_S) :=
  if hs_kd g v1 = 3 then
  hs_bd (fX4_sizeOf v2 g) fun r6 g5 =>
  if s0 = 0 then (
    if hs_kd g5 v1 = 3 then
    some ((3 : Int32), (hs_wI g5 v1 4 ((hs_I g v1 4) + r6)))
    else none
  ) else (
    if hs_kd g5 v1 = 3 then
    if ¬ (hs_R g5 v1 3) = 0 then
    if hs_kd g5 ((hs_R g5 v1 3) - 1) = 6 then
    hs_bd (fX7_targetOf ((hs_R g5 v1 3) - 1) (hs_I g5 v1 4) g5) fun r13 g12 =>
    if hs_kd g12 v1 = 3 then
    some ((3 : Int32), (hs_wI g12 v1 4 r13))
    else none else none else none else none
  )
  else none
def jX6_jump_18 (v1 : Nat) (v2 : Int32) (g : hs_S) : Option (Int32 × hs_S) :=
  jX6_jump_23 v1 v2 (1 : Int32) g
def fX6_jump (v0 : Nat) (v1 : Nat) (v2 : Int32) (g : hs_S) : Option (Int32 × hs_S) :=
  hs_bd (fX4_isBranch v2 g) fun r2 g1 =>
  if r2 = 0 then (
    jX6_jump_18 v1 v2 g1
  ) else (
    if hs_kd g1 v1 = 3 then
    hs_bd (fX3_pop v1 g1) fun r18 g17 =>
    hs_bd (fX4_isTaken v2 r18 g17) fun r21 g20 =>
    if r21 = 0 then (
      jX6_jump_23 v1 v2 (0 : Int32) g20
    ) else (
      jX6_jump_18 v1 v2 g20
    )
    else none
  )
abbrev rmX6_jump : Room := { frames := 3, cells := 0, slots := 0, locals := 64 }
set_option maxHeartbeats 4000000 in
set_option maxRecDepth 100000 in
theorem wX6_jump_j23 {p : Program} {l : Launch} {e : Env} {s : State} {m : MethodId} {args : Array Value} {below : List Frame} {meth : Method} {c : Code} {B : Nat} {D : va_G} {E : Nat → ClassId} (hX : hs_cx cX6_jump (some .int) 5 RX6 wcX6_jump p s m args meth c D E) {o : Int32 × hs_S}  {v1 : Nat} {v2 : Int32} {s0 : Int32}   {g : hs_S} {H : Heap} {locs : List Loc} {ls : Array Slot} (hf : jX6_jump_23 v1 v2 s0 g = some o) (hP : hs_P B D E g H) (hS : hs_Sx B s.heap H locs) (hl : lv_has ls 5 [(1, .ref (B + v1)), (2, .int v2)]) : W p l e rmX6_jump s m args below meth c H locs 0 0 (MQ below (hs_Qi B D E o) args s 0 0 (hs_F B)) (F0 m 23 ls [.int s0]) := by
  obtain ⟨hx, hb, hr, hml, hown, hts, hlocks, hK⟩ := id hX
  unfold jX6_jump_23 at hf
  refine lv_istore_n (lv' := [(3, .int s0), (1, .ref (B + v1)), (2, .int v2)]) hx hb dX6_jump_23 rfl hl (by decide) rfl (fun ls hl => ?_)
  refine lv_aload_n hx hb dX6_jump_24 rfl (lv_at hl 1 rfl) ?_
  obtain ⟨h4, hf⟩ := hs_ck hf
  refine hs_geti (C := RX3) (T := TX3) (N := 5) hx hb hts (fun w h => List.mem_cons_of_mem _ (inlX3 w h)) hown hK.1 hP h4 (by decide) rfl 4 (by decide) (hts _ (List.mem_cons_of_mem _ wq735)) (fun _ h => h) rfl dX6_jump_25 ?_
  refine lv_iload_n hx hb dX6_jump_28 rfl (lv_at hl 2 rfl) ?_
  obtain ⟨r6, g5, h7, hf⟩ := hs_bd_some hf
  refine hs_calli (va_runS (As := [.int v2]) (rest := [.int (hs_I g v1 4)]) ⟨hx, hb, hml, hown, hts⟩ (ctX4_sizeOf l B D E v2 g _ h7) (va_cwS 1 hts (hs_gS (fun _ h => List.mem_cons_of_mem _ h) wq779 wq257 wq258 wq259) rfl rfl rfl (by decide +kernel) ⟨Nat.le_of_ble_eq_true rfl, Nat.le_of_ble_eq_true rfl⟩) (hs_pre hP hK) rfl rfl hl.1 rfl (lv_room (Nat.le_of_ble_eq_true rfl)) dX6_jump_29 ⟨(Nat.le_of_ble_eq_true rfl), (Nat.le_of_ble_eq_true rfl)⟩) hS (fun H locs hP hS => ?_)
  refine lv_iadd hx hb dX6_jump_32 ?_
  refine lv_istore (lv' := [(4, .int ((hs_I g v1 4) + r6)), (3, .int s0), (1, .ref (B + v1)), (2, .int v2)]) hx hb dX6_jump_33 hl (by decide) rfl (fun ls hl => ?_)
  refine lv_aload_n hx hb dX6_jump_35 rfl (lv_at hl 2 rfl) ?_
  refine lv_iload_n hx hb dX6_jump_36 rfl (lv_at hl 1 rfl) ?_
  refine lv_if_eq (tgt := 54) hx hb dX6_jump_37 (by decide) (fun hc => ?_) (fun hc => ?_)
  · replace hf := hs_t hf hc
    refine lv_iload hx hb dX6_jump_54 (lv_at hl 0 rfl) ?_
    obtain ⟨h8, hf⟩ := hs_ck hf
    refine hs_puti (C := RX3) (T := TX3) (N := 5) hx hb hts (fun w h => List.mem_cons_of_mem _ (inlX3 w h)) tyX3 tyX3_ok nmX3 hown hK.1 hP hS h8 (by decide) rfl 4 (by decide) (hts _ (List.mem_cons_of_mem _ wq735)) (fun _ h => h) (Or.inl rfl) rfl rfl rfl dX6_jump_56 (fun H locs hP hS => ?_)
    refine lv_iconst (v := 3) hx hb dX6_jump_59 (by decide) ?_
    exact hs_iret hx hb hr hlocks rfl hK hP hS hf dX6_jump_60
  · replace hf := hs_f hf hc
    refine lv_aload_n hx hb dX6_jump_40 rfl (lv_at hl 2 rfl) ?_
    obtain ⟨h9, hf⟩ := hs_ck hf
    obtain ⟨h10, hf⟩ := hs_ck hf
    refine hs_getr (C := RX3) (T := TX3) (N := 5) hx hb hts (fun w h => List.mem_cons_of_mem _ (inlX3 w h)) hown hK.1 hP h9 (by decide) rfl 3 (by decide) (hts _ (List.mem_cons_of_mem _ wq699)) (fun _ h => h) rfl h10 dX6_jump_41 ?_
    refine lv_aload_n hx hb dX6_jump_44 rfl (lv_at hl 2 rfl) ?_
    refine hs_geti (C := RX3) (T := TX3) (N := 5) hx hb hts (fun w h => List.mem_cons_of_mem _ (inlX3 w h)) hown hK.1 hP h9 (by decide) rfl 4 (by decide) (hts _ (List.mem_cons_of_mem _ wq735)) (fun _ h => h) rfl dX6_jump_45 ?_
    obtain ⟨h11, hf⟩ := hs_ck hf
    obtain ⟨r13, g12, h14, hf⟩ := hs_bd_some hf
    refine hs_calli (va_runV (As := [.int (hs_I g5 v1 4)]) (rest := [.ref (B + v1)]) ⟨hx, hb, hml, hown, hts⟩ (ctX7_targetOf l B D E ((hs_R g5 v1 3) - 1) (hs_I g5 v1 4) g5 _ h14) (cwV 1 hts (hs_gV (fun _ h => List.mem_cons_of_mem _ h) wq789 wq310 wq311 wq43 wq312) rfl rfl rfl (by decide +kernel) ⟨Nat.le_of_ble_eq_true rfl, Nat.le_of_ble_eq_true rfl⟩) (hs_preV (r := (RX7, TX7, 11)) hP hK h11 (by decide) rfl) rfl rfl hl.1 rfl (lv_room (Nat.le_of_ble_eq_true rfl)) dX6_jump_48 ⟨(Nat.le_of_ble_eq_true rfl), (Nat.le_of_ble_eq_true rfl)⟩) hS (fun H locs hP hS => ?_)
    refine lv_goto (tgt := 56) hx hb dX6_jump_51 (by decide) ?_
    obtain ⟨h15, hf⟩ := hs_ck hf
    refine hs_puti (C := RX3) (T := TX3) (N := 5) hx hb hts (fun w h => List.mem_cons_of_mem _ (inlX3 w h)) tyX3 tyX3_ok nmX3 hown hK.1 hP hS h15 (by decide) rfl 4 (by decide) (hts _ (List.mem_cons_of_mem _ wq735)) (fun _ h => h) (Or.inl rfl) rfl rfl rfl dX6_jump_56 (fun H locs hP hS => ?_)
    refine lv_iconst (v := 3) hx hb dX6_jump_59 (by decide) ?_
    exact hs_iret hx hb hr hlocks rfl hK hP hS hf dX6_jump_60

set_option maxHeartbeats 4000000 in
set_option maxRecDepth 100000 in
theorem wX6_jump_j18 {p : Program} {l : Launch} {e : Env} {s : State} {m : MethodId} {args : Array Value} {below : List Frame} {meth : Method} {c : Code} {B : Nat} {D : va_G} {E : Nat → ClassId} (hX : hs_cx cX6_jump (some .int) 5 RX6 wcX6_jump p s m args meth c D E) {o : Int32 × hs_S}  {v1 : Nat} {v2 : Int32}   {g : hs_S} {H : Heap} {locs : List Loc} {ls : Array Slot} (hf : jX6_jump_18 v1 v2 g = some o) (hP : hs_P B D E g H) (hS : hs_Sx B s.heap H locs) (hl : lv_has ls 5 [(1, .ref (B + v1)), (2, .int v2)]) : W p l e rmX6_jump s m args below meth c H locs 0 0 (MQ below (hs_Qi B D E o) args s 0 0 (hs_F B)) (F0 m 18 ls []) := by
  obtain ⟨hx, hb, hr, hml, hown, hts, hlocks, hK⟩ := id hX
  unfold jX6_jump_18 at hf
  refine lv_iconst (v := 1) hx hb dX6_jump_18 (by decide) ?_
  refine lv_goto (tgt := 23) hx hb dX6_jump_19 (by decide) ?_
  exact wX6_jump_j23 hX hf hP hS (lv_sub hl [0, 1] rfl)

set_option maxHeartbeats 4000000 in
set_option maxRecDepth 100000 in
theorem ctX6_jump (l : Launch) (B : Nat) (D : va_G) (E : Nat → ClassId) (v0 : Nat) (v1 : Nat) (v2 : Int32) (g : hs_S) (o : Int32 × hs_S) (hf : fX6_jump v0 v1 v2 g = some o) : Met l yX6_jump wcX6_jump rmX6_jump (hs_Pc B D E g [.ref (B + v0), .ref (B + v1), .int v2]) (hs_Qi B D E o) (0) (0) (hs_F B) := by
  refine Met.ofW (cc := cX6_jump) (maxL := 5) (ret := (some .int)) (by decide) rfl ?_
  intro p e s m args below meth c s₁ Bd hml hv
  obtain ⟨rfl, hP, hK⟩ := hv
  have hx := Bd.exec
  have hb := Bd.bytes
  have hr := Bd.returns
  have hts := atoms_spec (ws := wcX6_jump) Bd.pre
  have hown : s.vm.findClass RX6 = some m.cls := findClass_of_methodNamed Bd.named
  have hlocks := Bd.notSynchronized
  have hS : hs_Sx B s.heap s.heap [] := va_S.rf
  have hX : hs_cx cX6_jump (some .int) 5 RX6 wcX6_jump p s m (List.toArray [.ref (B + v0), .ref (B + v1), .int v2]) meth c D E := ⟨hx, hb, hr, hml, hown, hts, hlocks, hK⟩
  have hl := lv_entry ([.ref (B + v0), .ref (B + v1), .int v2]) (n := 5) (Nat.le_of_ble_eq_true rfl)
  rw [lg_entry_eq]
  generalize (lg_sl ([.ref (B + v0), .ref (B + v1), .int v2]) ++ List.replicate (5 - (lg_sl ([.ref (B + v0), .ref (B + v1), .int v2])).length) Slot.unset).toArray = ls at hl ⊢
  have hl : lv_has ls 5 [(0, .ref (B + v0)), (1, .ref (B + v1)), (2, .int v2)] := hl
  have hP : hs_P B D E g s.heap := hP
  unfold fX6_jump at hf
  refine lv_iload_n hx hb dX6_jump_0 rfl (lv_at hl 2 rfl) ?_
  obtain ⟨r2, g1, h3, hf⟩ := hs_bd_some hf
  refine hs_calli (va_runS (As := [.int v2]) (rest := []) ⟨hx, hb, hml, hown, hts⟩ (ctX4_isBranch l B D E v2 g _ h3) (va_cwS 1 hts (hs_gS (fun _ h => List.mem_cons_of_mem _ h) wq785 wq264 wq258 wq265) rfl rfl rfl (by decide +kernel) ⟨Nat.le_of_ble_eq_true rfl, Nat.le_of_ble_eq_true rfl⟩) (hs_pre hP hK) rfl rfl hl.1 rfl (lv_room (Nat.le_of_ble_eq_true rfl)) dX6_jump_1 ⟨(Nat.le_of_ble_eq_true rfl), (Nat.le_of_ble_eq_true rfl)⟩) hS (fun H locs hP hS => ?_)
  refine lv_if_eq (tgt := 18) hx hb dX6_jump_4 (by decide) (fun hc => ?_) (fun hc => ?_)
  · replace hf := hs_t hf hc
    exact wX6_jump_j18 hX hf hP hS (lv_sub hl [1, 2] rfl)
  · replace hf := hs_f hf hc
    refine lv_iload_n hx hb dX6_jump_7 rfl (lv_at hl 2 rfl) ?_
    refine lv_aload_n hx hb dX6_jump_8 rfl (lv_at hl 1 rfl) ?_
    obtain ⟨h16, hf⟩ := hs_ck hf
    obtain ⟨r18, g17, h19, hf⟩ := hs_bd_some hf
    refine hs_calli (va_runV (As := []) (rest := [.int v2]) ⟨hx, hb, hml, hown, hts⟩ (ctX3_pop l B D E v1 g1 _ h19) (cwV 0 hts (hs_gV (fun _ h => List.mem_cons_of_mem _ h) wq767 wq768 wq769 wq101 wq770) rfl rfl rfl (by decide +kernel) ⟨Nat.le_of_ble_eq_true rfl, Nat.le_of_ble_eq_true rfl⟩) (hs_preV (r := (RX3, TX3, 5)) hP hK h16 (by decide) rfl) rfl rfl hl.1 rfl (lv_room (Nat.le_of_ble_eq_true rfl)) dX6_jump_9 ⟨(Nat.le_of_ble_eq_true rfl), (Nat.le_of_ble_eq_true rfl)⟩) hS (fun H locs hP hS => ?_)
    obtain ⟨r21, g20, h22, hf⟩ := hs_bd_some hf
    refine hs_calli (va_runS (As := [.int v2, .int r18]) (rest := []) ⟨hx, hb, hml, hown, hts⟩ (ctX4_isTaken l B D E v2 r18 g17 _ h22) (va_cwS 2 hts (hs_gS (fun _ h => List.mem_cons_of_mem _ h) wq786 wq787 wq258 wq788) rfl rfl rfl (by decide +kernel) ⟨Nat.le_of_ble_eq_true rfl, Nat.le_of_ble_eq_true rfl⟩) (hs_pre hP hK) rfl rfl hl.1 rfl (lv_room (Nat.le_of_ble_eq_true rfl)) dX6_jump_12 ⟨(Nat.le_of_ble_eq_true rfl), (Nat.le_of_ble_eq_true rfl)⟩) hS (fun H locs hP hS => ?_)
    refine lv_if_eq (tgt := 22) hx hb dX6_jump_15 (by decide) (fun hc => ?_) (fun hc => ?_)
    · replace hf := hs_t hf hc
      refine lv_iconst (v := 0) hx hb dX6_jump_22 (by decide) ?_
      exact wX6_jump_j23 hX hf hP hS (lv_sub hl [1, 2] rfl)
    · replace hf := hs_f hf hc
      exact wX6_jump_j18 hX hf hP hS (lv_sub hl [1, 2] rfl)

theorem dX3_local_0 : decode cX3_local 0 = .ok (.aload_n 0, 1) := by decide +kernel
theorem dX3_local_1 : decode cX3_local 1 = .ok (.getfield 9, 3) := by decide +kernel
theorem dX3_local_4 : decode cX3_local 4 = .ok (.iload_n 1, 1) := by decide +kernel
theorem dX3_local_5 : decode cX3_local 5 = .ok (.invokestatic 47, 3) := by decide +kernel
theorem dX3_local_8 : decode cX3_local 8 = .ok (.ireturn, 1) := by decide +kernel
abbrev wcX3_local : List Cond := .code yX3_local cX3_local 2 (some .int) :: wsL_law
def fX3_local (v0 : Nat) (v1 : Int32) (g : hs_S) : Option (Int32 × hs_S) :=
  if hs_kd g v0 = 3 then
  if ¬ (hs_R g v0 0) = 0 then
  hs_bd (fX9_at ((hs_R g v0 0) - 1) v1 g) fun r4 g3 =>
  some (r4, g3)
  else none else none
abbrev rmX3_local : Room := { frames := 1, cells := 0, slots := 0, locals := 21 }
set_option maxHeartbeats 4000000 in
set_option maxRecDepth 100000 in
theorem ctX3_local (l : Launch) (B : Nat) (D : va_G) (E : Nat → ClassId) (v0 : Nat) (v1 : Int32) (g : hs_S) (o : Int32 × hs_S) (hf : fX3_local v0 v1 g = some o) : Met l yX3_local wcX3_local rmX3_local (hs_Pc B D E g [.ref (B + v0), .int v1]) (hs_Qi B D E o) (0) (0) (hs_F B) := by
  refine Met.ofW (cc := cX3_local) (maxL := 2) (ret := (some .int)) (by decide) rfl ?_
  intro p e s m args below meth c s₁ Bd hml hv
  obtain ⟨rfl, hP, hK⟩ := hv
  have hx := Bd.exec
  have hb := Bd.bytes
  have hr := Bd.returns
  have hts := atoms_spec (ws := wcX3_local) Bd.pre
  have hown : s.vm.findClass RX3 = some m.cls := findClass_of_methodNamed Bd.named
  have hlocks := Bd.notSynchronized
  have hS : hs_Sx B s.heap s.heap [] := va_S.rf
  have hX : hs_cx cX3_local (some .int) 2 RX3 wcX3_local p s m (List.toArray [.ref (B + v0), .int v1]) meth c D E := ⟨hx, hb, hr, hml, hown, hts, hlocks, hK⟩
  have hl := lv_entry ([.ref (B + v0), .int v1]) (n := 2) (Nat.le_of_ble_eq_true rfl)
  rw [lg_entry_eq]
  generalize (lg_sl ([.ref (B + v0), .int v1]) ++ List.replicate (2 - (lg_sl ([.ref (B + v0), .int v1])).length) Slot.unset).toArray = ls at hl ⊢
  have hl : lv_has ls 2 [(0, .ref (B + v0)), (1, .int v1)] := hl
  have hP : hs_P B D E g s.heap := hP
  unfold fX3_local at hf
  refine lv_aload_n hx hb dX3_local_0 rfl (lv_at hl 0 rfl) ?_
  obtain ⟨h1, hf⟩ := hs_ck hf
  obtain ⟨h2, hf⟩ := hs_ck hf
  refine hs_getr (C := RX3) (T := TX3) (N := 5) hx hb hts (fun w h => List.mem_cons_of_mem _ (inlX3 w h)) hown hK.1 hP h1 (by decide) rfl 0 (by decide) (hts _ (List.mem_cons_of_mem _ wq115)) (fun _ h => h) rfl h2 dX3_local_1 ?_
  refine lv_iload_n hx hb dX3_local_4 rfl (lv_at hl 1 rfl) ?_
  obtain ⟨r4, g3, h5, hf⟩ := hs_bd_some hf
  refine hs_calli (va_runS (As := [.ref (B + ((hs_R g v0 0) - 1)), .int v1]) (rest := []) ⟨hx, hb, hml, hown, hts⟩ (ctX9_at l B D E ((hs_R g v0 0) - 1) v1 g _ h5) (va_cwS 2 hts (hs_gS (fun _ h => List.mem_cons_of_mem _ h) wq758 wq193 wq68 wq194) rfl rfl rfl (by decide +kernel) ⟨Nat.le_of_ble_eq_true rfl, Nat.le_of_ble_eq_true rfl⟩) (hs_pre hP hK) rfl rfl hl.1 rfl (lv_room (Nat.le_of_ble_eq_true rfl)) dX3_local_5 ⟨(Nat.le_of_ble_eq_true rfl), (Nat.le_of_ble_eq_true rfl)⟩) hS (fun H locs hP hS => ?_)
  exact hs_iret hx hb hr hlocks rfl hK hP hS hf dX3_local_8

theorem dX10_put_0 : decode cX10_put 0 = .ok (.aload_n 0, 1) := by decide +kernel
theorem dX10_put_1 : decode cX10_put 1 = .ok (.getfield 15, 3) := by decide +kernel
theorem dX10_put_4 : decode cX10_put 4 = .ok (.iload_n 1, 1) := by decide +kernel
theorem dX10_put_5 : decode cX10_put 5 = .ok (.sipush 1000, 3) := by decide +kernel
theorem dX10_put_8 : decode cX10_put 8 = .ok (.imul, 1) := by decide +kernel
theorem dX10_put_9 : decode cX10_put 9 = .ok (.iload_n 2, 1) := by decide +kernel
theorem dX10_put_10 : decode cX10_put 10 = .ok (.iadd, 1) := by decide +kernel
theorem dX10_put_11 : decode cX10_put 11 = .ok (.iload_n 3, 1) := by decide +kernel
theorem dX10_put_12 : decode cX10_put 12 = .ok (.invokestatic 26, 3) := by decide +kernel
theorem dX10_put_15 : decode cX10_put 15 = .ok (.return_, 1) := by decide +kernel
abbrev wcX10_put : List Cond := .code yX10_put cX10_put 4 none :: wsL_law
def fX10_put (v0 : Nat) (v1 : Int32) (v2 : Int32) (v3 : Int32) (g : hs_S) : Option (hs_S) :=
  if hs_kd g v0 = 8 then
  if ¬ (hs_R g v0 1) = 0 then
  hs_bv (fX9_put ((hs_R g v0 1) - 1) ((v1 * (1000 : Int32)) + v2) v3 g) fun g3 =>
  some g3
  else none else none
abbrev rmX10_put : Room := { frames := 1, cells := 0, slots := 0, locals := 22 }
set_option maxHeartbeats 4000000 in
set_option maxRecDepth 100000 in
theorem ctX10_put (l : Launch) (B : Nat) (D : va_G) (E : Nat → ClassId) (v0 : Nat) (v1 : Int32) (v2 : Int32) (v3 : Int32) (g : hs_S) (o : hs_S) (hf : fX10_put v0 v1 v2 v3 g = some o) : Met l yX10_put wcX10_put rmX10_put (hs_Pc B D E g [.ref (B + v0), .int v1, .int v2, .int v3]) (hs_Qv B D E o) (0) (0) (hs_F B) := by
  refine Met.ofW (cc := cX10_put) (maxL := 4) (ret := none) (by decide) rfl ?_
  intro p e s m args below meth c s₁ Bd hml hv
  obtain ⟨rfl, hP, hK⟩ := hv
  have hx := Bd.exec
  have hb := Bd.bytes
  have hr := Bd.returns
  have hts := atoms_spec (ws := wcX10_put) Bd.pre
  have hown : s.vm.findClass RX10 = some m.cls := findClass_of_methodNamed Bd.named
  have hlocks := Bd.notSynchronized
  have hS : hs_Sx B s.heap s.heap [] := va_S.rf
  have hX : hs_cx cX10_put none 4 RX10 wcX10_put p s m (List.toArray [.ref (B + v0), .int v1, .int v2, .int v3]) meth c D E := ⟨hx, hb, hr, hml, hown, hts, hlocks, hK⟩
  have hl := lv_entry ([.ref (B + v0), .int v1, .int v2, .int v3]) (n := 4) (Nat.le_of_ble_eq_true rfl)
  rw [lg_entry_eq]
  generalize (lg_sl ([.ref (B + v0), .int v1, .int v2, .int v3]) ++ List.replicate (4 - (lg_sl ([.ref (B + v0), .int v1, .int v2, .int v3])).length) Slot.unset).toArray = ls at hl ⊢
  have hl : lv_has ls 4 [(0, .ref (B + v0)), (1, .int v1), (2, .int v2), (3, .int v3)] := hl
  have hP : hs_P B D E g s.heap := hP
  unfold fX10_put at hf
  refine lv_aload_n hx hb dX10_put_0 rfl (lv_at hl 0 rfl) ?_
  obtain ⟨h1, hf⟩ := hs_ck hf
  obtain ⟨h2, hf⟩ := hs_ck hf
  refine hs_getr (C := RX10) (T := TX10) (N := 2) hx hb hts (fun w h => List.mem_cons_of_mem _ (inlX10 w h)) hown hK.1 hP h1 (by decide) rfl 1 (by decide) (hts _ (List.mem_cons_of_mem _ wq106)) (fun _ h => h) rfl h2 dX10_put_1 ?_
  refine lv_iload_n hx hb dX10_put_4 rfl (lv_at hl 1 rfl) ?_
  refine lv_sipush (v := 1000) hx hb dX10_put_5 (by decide) ?_
  refine lv_imul hx hb dX10_put_8 ?_
  refine lv_iload_n hx hb dX10_put_9 rfl (lv_at hl 2 rfl) ?_
  refine lv_iadd hx hb dX10_put_10 ?_
  refine lv_iload_n hx hb dX10_put_11 rfl (lv_at hl 3 rfl) ?_
  obtain ⟨g3, h5, hf⟩ := hs_bv_some hf
  refine hs_callv (va_runS (As := [.ref (B + ((hs_R g v0 1) - 1)), .int ((v1 * (1000 : Int32)) + v2), .int v3]) (rest := []) ⟨hx, hb, hml, hown, hts⟩ (ctX9_put l B D E ((hs_R g v0 1) - 1) ((v1 * (1000 : Int32)) + v2) v3 g _ h5) (va_cwS 3 hts (hs_gS (fun _ h => List.mem_cons_of_mem _ h) wq808 wq67 wq68 wq69) rfl rfl rfl (by decide +kernel) ⟨Nat.le_of_ble_eq_true rfl, Nat.le_of_ble_eq_true rfl⟩) (hs_pre hP hK) rfl rfl hl.1 rfl (lv_room (Nat.le_of_ble_eq_true rfl)) dX10_put_12 ⟨(Nat.le_of_ble_eq_true rfl), (Nat.le_of_ble_eq_true rfl)⟩) hS (fun H locs hP hS => ?_)
  exact hs_vret hx hb hr hlocks hK hP hS hf dX10_put_15

theorem dX10_make_0 : decode cX10_make 0 = .ok (.iload_n 2, 1) := by decide +kernel
theorem dX10_make_1 : decode cX10_make 1 = .ok (.ifCond .ge 5, 3) := by decide +kernel
theorem dX10_make_4 : decode cX10_make 4 = .ok (.iconst 3, 1) := by decide +kernel
theorem dX10_make_5 : decode cX10_make 5 = .ok (.ireturn, 1) := by decide +kernel
theorem dX10_make_6 : decode cX10_make 6 = .ok (.iload_n 2, 1) := by decide +kernel
theorem dX10_make_7 : decode cX10_make 7 = .ok (.sipush 1000, 3) := by decide +kernel
theorem dX10_make_10 : decode cX10_make 10 = .ok (.if_icmp .le 5, 3) := by decide +kernel
theorem dX10_make_13 : decode cX10_make 13 = .ok (.iconst 4, 1) := by decide +kernel
theorem dX10_make_14 : decode cX10_make 14 = .ok (.ireturn, 1) := by decide +kernel
theorem dX10_make_15 : decode cX10_make 15 = .ok (.aload_n 0, 1) := by decide +kernel
theorem dX10_make_16 : decode cX10_make 16 = .ok (.getfield 9, 3) := by decide +kernel
theorem dX10_make_19 : decode cX10_make 19 = .ok (.iload_n 1, 1) := by decide +kernel
theorem dX10_make_20 : decode cX10_make 20 = .ok (.iload_n 2, 1) := by decide +kernel
theorem dX10_make_21 : decode cX10_make 21 = .ok (.invokestatic 26, 3) := by decide +kernel
theorem dX10_make_24 : decode cX10_make 24 = .ok (.iconst 0, 1) := by decide +kernel
theorem dX10_make_25 : decode cX10_make 25 = .ok (.istore_n 3, 1) := by decide +kernel
theorem dX10_make_26 : decode cX10_make 26 = .ok (.iload_n 3, 1) := by decide +kernel
theorem dX10_make_27 : decode cX10_make 27 = .ok (.iload_n 2, 1) := by decide +kernel
theorem dX10_make_28 : decode cX10_make 28 = .ok (.if_icmp .ge 16, 3) := by decide +kernel
theorem dX10_make_31 : decode cX10_make 31 = .ok (.aload_n 0, 1) := by decide +kernel
theorem dX10_make_32 : decode cX10_make 32 = .ok (.iload_n 1, 1) := by decide +kernel
theorem dX10_make_33 : decode cX10_make 33 = .ok (.iload_n 3, 1) := by decide +kernel
theorem dX10_make_34 : decode cX10_make 34 = .ok (.iconst 0, 1) := by decide +kernel
theorem dX10_make_35 : decode cX10_make 35 = .ok (.invokevirtual 32, 3) := by decide +kernel
theorem dX10_make_38 : decode cX10_make 38 = .ok (.iinc 3 1, 3) := by decide +kernel
theorem dX10_make_41 : decode cX10_make 41 = .ok (.goto (-15), 3) := by decide +kernel
theorem dX10_make_44 : decode cX10_make 44 = .ok (.iconst 0, 1) := by decide +kernel
theorem dX10_make_45 : decode cX10_make 45 = .ok (.ireturn, 1) := by decide +kernel
abbrev wcX10_make : List Cond := .code yX10_make cX10_make 4 (some .int) :: wsL_law
def lX10_make_26 : Nat → Nat → Int32 → Int32 → Int32 → hs_S → Option (hs_S)
  | 0, _, _, _, _, _ => none
  | n + 1, v0, v1, v2, v3, g =>
    if v2 ≤ v3 then (
      some g
    ) else (
      if hs_kd g v0 = 8 then
      hs_bv (fX10_put v0 v1 v3 (0 : Int32) g) fun g7 =>
      lX10_make_26 n v0 v1 v2 (v3 + (1 : Int32)) g7
      else none
    )
theorem lX10_make_26_s (n : Nat) (v0 : Nat) (v1 : Int32) (v2 : Int32) (v3 : Int32) (g : hs_S) : lX10_make_26 (n + 1) v0 v1 v2 v3 g =
    if v2 ≤ v3 then (
      some g
    ) else (
      if hs_kd g v0 = 8 then
      hs_bv (fX10_put v0 v1 v3 (0 : Int32) g) fun g7 =>
      lX10_make_26 n v0 v1 v2 (v3 + (1 : Int32)) g7
      else none
    ) := rfl
def fX10_make (v0 : Nat) (v1 : Int32) (v2 : Int32) (g : hs_S) : Option (Int32 × hs_S) :=
  if 0 ≤ v2 then (
    if v2 ≤ (1000 : Int32) then (
      if hs_kd g v0 = 8 then
      if ¬ (hs_R g v0 0) = 0 then
      hs_bv (fX9_put ((hs_R g v0 0) - 1) v1 v2 g) fun g3 =>
      hs_bv (lX10_make_26 hs_N v0 v1 v2 (0 : Int32) g3) fun g11 =>
      some ((0 : Int32), g11)
      else none else none
    ) else (
      some ((4 : Int32), g)
    )
  ) else (
    some ((3 : Int32), g)
  )
abbrev rmX10_make : Room := { frames := 2, cells := 0, slots := 0, locals := 45 }
set_option maxHeartbeats 4000000 in
set_option maxRecDepth 100000 in
theorem wX10_make_26 {p : Program} {l : Launch} {e : Env} {s : State} {m : MethodId} {args : Array Value} {below : List Frame} {meth : Method} {c : Code} {B : Nat} {D : va_G} {E : Nat → ClassId} (hX : hs_cx cX10_make (some .int) 4 RX10 wcX10_make p s m args meth c D E) {Q : State → Prop} {o : hs_S} {v0 : Nat} {v1 : Int32} {v2 : Int32} (hex0 : ∀ (H : Heap) (locs : List Loc) (ls : Array Slot), hs_P B D E (o) H → hs_Sx B s.heap H locs → lv_has ls 4 [] → W p l e rmX10_make s m args below meth c H locs 0 0 Q (F0 m 44 ls [])) : ∀ (n : Nat) (v3 : Int32) (g : hs_S), lX10_make_26 n v0 v1 v2 v3 g = some o → ∀ (H : Heap) (locs : List Loc) (ls : Array Slot), hs_P B D E g H → hs_Sx B s.heap H locs → lv_has ls 4 [(0, .ref (B + v0)), (1, .int v1), (2, .int v2), (3, .int v3)] → W p l e rmX10_make s m args below meth c H locs 0 0 Q (F0 m 26 ls []) := by
  obtain ⟨hx, hb, hr, hml, hown, hts, hlocks, hK⟩ := id hX
  intro n
  induction n with
  | zero =>
    intro v3 g hf
    cases hf
  | succ n ih =>
    intro v3 g hf H locs ls hP hS hl
    replace hf := (lX10_make_26_s n v0 v1 v2 v3 g).symm.trans hf
    refine lv_iload_n hx hb dX10_make_26 rfl (lv_at hl 3 rfl) ?_
    refine lv_iload_n hx hb dX10_make_27 rfl (lv_at hl 2 rfl) ?_
    refine lv_icmp_ge (tgt := 44) hx hb dX10_make_28 (by decide) (fun hc => ?_) (fun hc => ?_)
    · replace hf := hs_t hf hc
      obtain rfl := Option.some.inj hf
      exact hex0 _ _ _ hP hS (lv_sub hl [] rfl)
    · replace hf := hs_f hf hc
      refine lv_aload_n hx hb dX10_make_31 rfl (lv_at hl 0 rfl) ?_
      refine lv_iload_n hx hb dX10_make_32 rfl (lv_at hl 1 rfl) ?_
      refine lv_iload_n hx hb dX10_make_33 rfl (lv_at hl 3 rfl) ?_
      refine lv_iconst (v := 0) hx hb dX10_make_34 (by decide) ?_
      obtain ⟨h6, hf⟩ := hs_ck hf
      obtain ⟨g7, h9, hf⟩ := hs_bv_some hf
      refine hs_callv (va_runV (As := [.int v1, .int v3, .int (0 : Int32)]) (rest := []) ⟨hx, hb, hml, hown, hts⟩ (ctX10_put l B D E v0 v1 v3 (0 : Int32) g _ h9) (cwV 3 hts (hs_gV (fun _ h => List.mem_cons_of_mem _ h) wq809 wq810 wq811 wq97 wq812) rfl rfl rfl (by decide +kernel) ⟨Nat.le_of_ble_eq_true rfl, Nat.le_of_ble_eq_true rfl⟩) (hs_preV (r := (RX10, TX10, 2)) hP hK h6 (by decide) rfl) rfl rfl hl.1 rfl (lv_room (Nat.le_of_ble_eq_true rfl)) dX10_make_35 ⟨(Nat.le_of_ble_eq_true rfl), (Nat.le_of_ble_eq_true rfl)⟩) hS (fun H locs hP hS => ?_)
      refine lv_iinc (v := (v3 + (1 : Int32))) (lv' := [(3, .int (v3 + (1 : Int32))), (0, .ref (B + v0)), (1, .int v1), (2, .int v2)]) hx hb dX10_make_38 hl (k := 3) rfl (by rfl) (by decide) rfl (fun ls hl => ?_)
      refine lv_goto (tgt := 26) hx hb dX10_make_41 (by decide) ?_
      exact ih _ _ hf _ _ _ hP hS (lv_sub hl [1, 2, 3, 0] rfl)

set_option maxHeartbeats 4000000 in
set_option maxRecDepth 100000 in
theorem ctX10_make (l : Launch) (B : Nat) (D : va_G) (E : Nat → ClassId) (v0 : Nat) (v1 : Int32) (v2 : Int32) (g : hs_S) (o : Int32 × hs_S) (hf : fX10_make v0 v1 v2 g = some o) : Met l yX10_make wcX10_make rmX10_make (hs_Pc B D E g [.ref (B + v0), .int v1, .int v2]) (hs_Qi B D E o) (0) (0) (hs_F B) := by
  refine Met.ofW (cc := cX10_make) (maxL := 4) (ret := (some .int)) (by decide) rfl ?_
  intro p e s m args below meth c s₁ Bd hml hv
  obtain ⟨rfl, hP, hK⟩ := hv
  have hx := Bd.exec
  have hb := Bd.bytes
  have hr := Bd.returns
  have hts := atoms_spec (ws := wcX10_make) Bd.pre
  have hown : s.vm.findClass RX10 = some m.cls := findClass_of_methodNamed Bd.named
  have hlocks := Bd.notSynchronized
  have hS : hs_Sx B s.heap s.heap [] := va_S.rf
  have hX : hs_cx cX10_make (some .int) 4 RX10 wcX10_make p s m (List.toArray [.ref (B + v0), .int v1, .int v2]) meth c D E := ⟨hx, hb, hr, hml, hown, hts, hlocks, hK⟩
  have hl := lv_entry ([.ref (B + v0), .int v1, .int v2]) (n := 4) (Nat.le_of_ble_eq_true rfl)
  rw [lg_entry_eq]
  generalize (lg_sl ([.ref (B + v0), .int v1, .int v2]) ++ List.replicate (4 - (lg_sl ([.ref (B + v0), .int v1, .int v2])).length) Slot.unset).toArray = ls at hl ⊢
  have hl : lv_has ls 4 [(0, .ref (B + v0)), (1, .int v1), (2, .int v2)] := hl
  have hP : hs_P B D E g s.heap := hP
  unfold fX10_make at hf
  refine lv_iload_n hx hb dX10_make_0 rfl (lv_at hl 2 rfl) ?_
  refine lv_if_ge (tgt := 6) hx hb dX10_make_1 (by decide) (fun hc => ?_) (fun hc => ?_)
  · replace hf := hs_t hf hc
    refine lv_iload_n hx hb dX10_make_6 rfl (lv_at hl 2 rfl) ?_
    refine lv_sipush (v := 1000) hx hb dX10_make_7 (by decide) ?_
    refine lv_icmp_le (tgt := 15) hx hb dX10_make_10 (by decide) (fun hc => ?_) (fun hc => ?_)
    · replace hf := hs_t hf hc
      refine lv_aload_n hx hb dX10_make_15 rfl (lv_at hl 0 rfl) ?_
      obtain ⟨h1, hf⟩ := hs_ck hf
      obtain ⟨h2, hf⟩ := hs_ck hf
      refine hs_getr (C := RX10) (T := TX10) (N := 2) hx hb hts (fun w h => List.mem_cons_of_mem _ (inlX10 w h)) hown hK.1 hP h1 (by decide) rfl 0 (by decide) (hts _ (List.mem_cons_of_mem _ wq105)) (fun _ h => h) rfl h2 dX10_make_16 ?_
      refine lv_iload_n hx hb dX10_make_19 rfl (lv_at hl 1 rfl) ?_
      refine lv_iload_n hx hb dX10_make_20 rfl (lv_at hl 2 rfl) ?_
      obtain ⟨g3, h5, hf⟩ := hs_bv_some hf
      refine hs_callv (va_runS (As := [.ref (B + ((hs_R g v0 0) - 1)), .int v1, .int v2]) (rest := []) ⟨hx, hb, hml, hown, hts⟩ (ctX9_put l B D E ((hs_R g v0 0) - 1) v1 v2 g _ h5) (va_cwS 3 hts (hs_gS (fun _ h => List.mem_cons_of_mem _ h) wq808 wq67 wq68 wq69) rfl rfl rfl (by decide +kernel) ⟨Nat.le_of_ble_eq_true rfl, Nat.le_of_ble_eq_true rfl⟩) (hs_pre hP hK) rfl rfl hl.1 rfl (lv_room (Nat.le_of_ble_eq_true rfl)) dX10_make_21 ⟨(Nat.le_of_ble_eq_true rfl), (Nat.le_of_ble_eq_true rfl)⟩) hS (fun H locs hP hS => ?_)
      refine lv_iconst (v := 0) hx hb dX10_make_24 (by decide) ?_
      refine lv_istore_n (lv' := [(3, .int (0 : Int32)), (0, .ref (B + v0)), (1, .int v1), (2, .int v2)]) hx hb dX10_make_25 rfl hl (by decide) rfl (fun ls hl => ?_)
      obtain ⟨g11, h12, hf⟩ := hs_bv_some hf
      refine wX10_make_26 hX (fun H locs ls hP hS hl => ?_) hs_N _ _ h12 _ _ _ hP hS (lv_sub hl [1, 2, 3, 0] rfl)
      refine lv_iconst (v := 0) hx hb dX10_make_44 (by decide) ?_
      exact hs_iret hx hb hr hlocks rfl hK hP hS hf dX10_make_45
    · replace hf := hs_f hf hc
      refine lv_iconst (v := 4) hx hb dX10_make_13 (by decide) ?_
      exact hs_iret hx hb hr hlocks rfl hK hP hS hf dX10_make_14
  · replace hf := hs_f hf hc
    refine lv_iconst (v := 3) hx hb dX10_make_4 (by decide) ?_
    exact hs_iret hx hb hr hlocks rfl hK hP hS hf dX10_make_5

theorem dX10_sizeOf_0 : decode cX10_sizeOf 0 = .ok (.aload_n 0, 1) := by decide +kernel
theorem dX10_sizeOf_1 : decode cX10_sizeOf 1 = .ok (.getfield 9, 3) := by decide +kernel
theorem dX10_sizeOf_4 : decode cX10_sizeOf 4 = .ok (.iload_n 1, 1) := by decide +kernel
theorem dX10_sizeOf_5 : decode cX10_sizeOf 5 = .ok (.invokestatic 35, 3) := by decide +kernel
theorem dX10_sizeOf_8 : decode cX10_sizeOf 8 = .ok (.ireturn, 1) := by decide +kernel
abbrev wcX10_sizeOf : List Cond := .code yX10_sizeOf cX10_sizeOf 2 (some .int) :: wsL_law
def fX10_sizeOf (v0 : Nat) (v1 : Int32) (g : hs_S) : Option (Int32 × hs_S) :=
  if hs_kd g v0 = 8 then
  if ¬ (hs_R g v0 0) = 0 then
  hs_bd (fX9_at ((hs_R g v0 0) - 1) v1 g) fun r4 g3 =>
  some (r4, g3)
  else none else none
abbrev rmX10_sizeOf : Room := { frames := 1, cells := 0, slots := 0, locals := 21 }
set_option maxHeartbeats 4000000 in
set_option maxRecDepth 100000 in
theorem ctX10_sizeOf (l : Launch) (B : Nat) (D : va_G) (E : Nat → ClassId) (v0 : Nat) (v1 : Int32) (g : hs_S) (o : Int32 × hs_S) (hf : fX10_sizeOf v0 v1 g = some o) : Met l yX10_sizeOf wcX10_sizeOf rmX10_sizeOf (hs_Pc B D E g [.ref (B + v0), .int v1]) (hs_Qi B D E o) (0) (0) (hs_F B) := by
  refine Met.ofW (cc := cX10_sizeOf) (maxL := 2) (ret := (some .int)) (by decide) rfl ?_
  intro p e s m args below meth c s₁ Bd hml hv
  obtain ⟨rfl, hP, hK⟩ := hv
  have hx := Bd.exec
  have hb := Bd.bytes
  have hr := Bd.returns
  have hts := atoms_spec (ws := wcX10_sizeOf) Bd.pre
  have hown : s.vm.findClass RX10 = some m.cls := findClass_of_methodNamed Bd.named
  have hlocks := Bd.notSynchronized
  have hS : hs_Sx B s.heap s.heap [] := va_S.rf
  have hX : hs_cx cX10_sizeOf (some .int) 2 RX10 wcX10_sizeOf p s m (List.toArray [.ref (B + v0), .int v1]) meth c D E := ⟨hx, hb, hr, hml, hown, hts, hlocks, hK⟩
  have hl := lv_entry ([.ref (B + v0), .int v1]) (n := 2) (Nat.le_of_ble_eq_true rfl)
  rw [lg_entry_eq]
  generalize (lg_sl ([.ref (B + v0), .int v1]) ++ List.replicate (2 - (lg_sl ([.ref (B + v0), .int v1])).length) Slot.unset).toArray = ls at hl ⊢
  have hl : lv_has ls 2 [(0, .ref (B + v0)), (1, .int v1)] := hl
  have hP : hs_P B D E g s.heap := hP
  unfold fX10_sizeOf at hf
  refine lv_aload_n hx hb dX10_sizeOf_0 rfl (lv_at hl 0 rfl) ?_
  obtain ⟨h1, hf⟩ := hs_ck hf
  obtain ⟨h2, hf⟩ := hs_ck hf
  refine hs_getr (C := RX10) (T := TX10) (N := 2) hx hb hts (fun w h => List.mem_cons_of_mem _ (inlX10 w h)) hown hK.1 hP h1 (by decide) rfl 0 (by decide) (hts _ (List.mem_cons_of_mem _ wq105)) (fun _ h => h) rfl h2 dX10_sizeOf_1 ?_
  refine lv_iload_n hx hb dX10_sizeOf_4 rfl (lv_at hl 1 rfl) ?_
  obtain ⟨r4, g3, h5, hf⟩ := hs_bd_some hf
  refine hs_calli (va_runS (As := [.ref (B + ((hs_R g v0 0) - 1)), .int v1]) (rest := []) ⟨hx, hb, hml, hown, hts⟩ (ctX9_at l B D E ((hs_R g v0 0) - 1) v1 g _ h5) (va_cwS 2 hts (hs_gS (fun _ h => List.mem_cons_of_mem _ h) wq817 wq193 wq68 wq194) rfl rfl rfl (by decide +kernel) ⟨Nat.le_of_ble_eq_true rfl, Nat.le_of_ble_eq_true rfl⟩) (hs_pre hP hK) rfl rfl hl.1 rfl (lv_room (Nat.le_of_ble_eq_true rfl)) dX10_sizeOf_5 ⟨(Nat.le_of_ble_eq_true rfl), (Nat.le_of_ble_eq_true rfl)⟩) hS (fun H locs hP hS => ?_)
  exact hs_iret hx hb hr hlocks rfl hK hP hS hf dX10_sizeOf_8

theorem dX10_has_0 : decode cX10_has 0 = .ok (.iload_n 2, 1) := by decide +kernel
theorem dX10_has_1 : decode cX10_has 1 = .ok (.ifCond .lt 16, 3) := by decide +kernel
theorem dX10_has_4 : decode cX10_has 4 = .ok (.iload_n 2, 1) := by decide +kernel
theorem dX10_has_5 : decode cX10_has 5 = .ok (.aload_n 0, 1) := by decide +kernel
theorem dX10_has_6 : decode cX10_has 6 = .ok (.iload_n 1, 1) := by decide +kernel
theorem dX10_has_7 : decode cX10_has 7 = .ok (.invokevirtual 39, 3) := by decide +kernel
theorem dX10_has_10 : decode cX10_has 10 = .ok (.if_icmp .ge 7, 3) := by decide +kernel
theorem dX10_has_13 : decode cX10_has 13 = .ok (.iconst 1, 1) := by decide +kernel
theorem dX10_has_14 : decode cX10_has 14 = .ok (.goto 4, 3) := by decide +kernel
theorem dX10_has_17 : decode cX10_has 17 = .ok (.iconst 0, 1) := by decide +kernel
theorem dX10_has_18 : decode cX10_has 18 = .ok (.ireturn, 1) := by decide +kernel
abbrev wcX10_has : List Cond := .code yX10_has cX10_has 3 (some .boolean) :: wsL_law
def fX10_has (v0 : Nat) (v1 : Int32) (v2 : Int32) (g : hs_S) : Option (Int32 × hs_S) :=
  if v2 < 0 then (
    some ((0 : Int32), g)
  ) else (
    if hs_kd g v0 = 8 then
    hs_bd (fX10_sizeOf v0 v1 g) fun r3 g2 =>
    if r3 ≤ v2 then (
      some ((0 : Int32), g2)
    ) else (
      some ((1 : Int32), g2)
    )
    else none
  )
abbrev rmX10_has : Room := { frames := 2, cells := 0, slots := 0, locals := 42 }
set_option maxHeartbeats 4000000 in
set_option maxRecDepth 100000 in
theorem ctX10_has (l : Launch) (B : Nat) (D : va_G) (E : Nat → ClassId) (v0 : Nat) (v1 : Int32) (v2 : Int32) (g : hs_S) (o : Int32 × hs_S) (hf : fX10_has v0 v1 v2 g = some o) : Met l yX10_has wcX10_has rmX10_has (hs_Pc B D E g [.ref (B + v0), .int v1, .int v2]) (hs_Qi B D E o) (0) (0) (hs_F B) := by
  refine Met.ofW (cc := cX10_has) (maxL := 3) (ret := (some .boolean)) (by decide) rfl ?_
  intro p e s m args below meth c s₁ Bd hml hv
  obtain ⟨rfl, hP, hK⟩ := hv
  have hx := Bd.exec
  have hb := Bd.bytes
  have hr := Bd.returns
  have hts := atoms_spec (ws := wcX10_has) Bd.pre
  have hown : s.vm.findClass RX10 = some m.cls := findClass_of_methodNamed Bd.named
  have hlocks := Bd.notSynchronized
  have hS : hs_Sx B s.heap s.heap [] := va_S.rf
  have hX : hs_cx cX10_has (some .boolean) 3 RX10 wcX10_has p s m (List.toArray [.ref (B + v0), .int v1, .int v2]) meth c D E := ⟨hx, hb, hr, hml, hown, hts, hlocks, hK⟩
  have hl := lv_entry ([.ref (B + v0), .int v1, .int v2]) (n := 3) (Nat.le_of_ble_eq_true rfl)
  rw [lg_entry_eq]
  generalize (lg_sl ([.ref (B + v0), .int v1, .int v2]) ++ List.replicate (3 - (lg_sl ([.ref (B + v0), .int v1, .int v2])).length) Slot.unset).toArray = ls at hl ⊢
  have hl : lv_has ls 3 [(0, .ref (B + v0)), (1, .int v1), (2, .int v2)] := hl
  have hP : hs_P B D E g s.heap := hP
  unfold fX10_has at hf
  refine lv_iload_n hx hb dX10_has_0 rfl (lv_at hl 2 rfl) ?_
  refine lv_if_lt (tgt := 17) hx hb dX10_has_1 (by decide) (fun hc => ?_) (fun hc => ?_)
  · replace hf := hs_t hf hc
    refine lv_iconst (v := 0) hx hb dX10_has_17 (by decide) ?_
    exact hs_iret hx hb hr hlocks (hs_01_nar (rfl)) hK hP hS hf dX10_has_18
  · replace hf := hs_f hf hc
    refine lv_iload_n hx hb dX10_has_4 rfl (lv_at hl 2 rfl) ?_
    refine lv_aload_n hx hb dX10_has_5 rfl (lv_at hl 0 rfl) ?_
    refine lv_iload_n hx hb dX10_has_6 rfl (lv_at hl 1 rfl) ?_
    obtain ⟨h1, hf⟩ := hs_ck hf
    obtain ⟨r3, g2, h4, hf⟩ := hs_bd_some hf
    refine hs_calli (va_runV (As := [.int v1]) (rest := [.int v2]) ⟨hx, hb, hml, hown, hts⟩ (ctX10_sizeOf l B D E v0 v1 g _ h4) (cwV 1 hts (hs_gV (fun _ h => List.mem_cons_of_mem _ h) wq822 wq814 wq815 wq97 wq816) rfl rfl rfl (by decide +kernel) ⟨Nat.le_of_ble_eq_true rfl, Nat.le_of_ble_eq_true rfl⟩) (hs_preV (r := (RX10, TX10, 2)) hP hK h1 (by decide) rfl) rfl rfl hl.1 rfl (lv_room (Nat.le_of_ble_eq_true rfl)) dX10_has_7 ⟨(Nat.le_of_ble_eq_true rfl), (Nat.le_of_ble_eq_true rfl)⟩) hS (fun H locs hP hS => ?_)
    refine lv_icmp_ge (tgt := 17) hx hb dX10_has_10 (by decide) (fun hc => ?_) (fun hc => ?_)
    · replace hf := hs_t hf hc
      refine lv_iconst (v := 0) hx hb dX10_has_17 (by decide) ?_
      exact hs_iret hx hb hr hlocks (hs_01_nar (rfl)) hK hP hS hf dX10_has_18
    · replace hf := hs_f hf hc
      refine lv_iconst (v := 1) hx hb dX10_has_13 (by decide) ?_
      refine lv_goto (tgt := 18) hx hb dX10_has_14 (by decide) ?_
      exact hs_iret hx hb hr hlocks (hs_01_nar (rfl)) hK hP hS hf dX10_has_18

theorem dX10_get_0 : decode cX10_get 0 = .ok (.aload_n 0, 1) := by decide +kernel
theorem dX10_get_1 : decode cX10_get 1 = .ok (.getfield 15, 3) := by decide +kernel
theorem dX10_get_4 : decode cX10_get 4 = .ok (.iload_n 1, 1) := by decide +kernel
theorem dX10_get_5 : decode cX10_get 5 = .ok (.sipush 1000, 3) := by decide +kernel
theorem dX10_get_8 : decode cX10_get 8 = .ok (.imul, 1) := by decide +kernel
theorem dX10_get_9 : decode cX10_get 9 = .ok (.iload_n 2, 1) := by decide +kernel
theorem dX10_get_10 : decode cX10_get 10 = .ok (.iadd, 1) := by decide +kernel
theorem dX10_get_11 : decode cX10_get 11 = .ok (.invokestatic 35, 3) := by decide +kernel
theorem dX10_get_14 : decode cX10_get 14 = .ok (.ireturn, 1) := by decide +kernel
abbrev wcX10_get : List Cond := .code yX10_get cX10_get 3 (some .int) :: wsL_law
def fX10_get (v0 : Nat) (v1 : Int32) (v2 : Int32) (g : hs_S) : Option (Int32 × hs_S) :=
  if hs_kd g v0 = 8 then
  if ¬ (hs_R g v0 1) = 0 then
  hs_bd (fX9_at ((hs_R g v0 1) - 1) ((v1 * (1000 : Int32)) + v2) g) fun r4 g3 =>
  some (r4, g3)
  else none else none
abbrev rmX10_get : Room := { frames := 1, cells := 0, slots := 0, locals := 21 }
set_option maxHeartbeats 4000000 in
set_option maxRecDepth 100000 in
theorem ctX10_get (l : Launch) (B : Nat) (D : va_G) (E : Nat → ClassId) (v0 : Nat) (v1 : Int32) (v2 : Int32) (g : hs_S) (o : Int32 × hs_S) (hf : fX10_get v0 v1 v2 g = some o) : Met l yX10_get wcX10_get rmX10_get (hs_Pc B D E g [.ref (B + v0), .int v1, .int v2]) (hs_Qi B D E o) (0) (0) (hs_F B) := by
  refine Met.ofW (cc := cX10_get) (maxL := 3) (ret := (some .int)) (by decide) rfl ?_
  intro p e s m args below meth c s₁ Bd hml hv
  obtain ⟨rfl, hP, hK⟩ := hv
  have hx := Bd.exec
  have hb := Bd.bytes
  have hr := Bd.returns
  have hts := atoms_spec (ws := wcX10_get) Bd.pre
  have hown : s.vm.findClass RX10 = some m.cls := findClass_of_methodNamed Bd.named
  have hlocks := Bd.notSynchronized
  have hS : hs_Sx B s.heap s.heap [] := va_S.rf
  have hX : hs_cx cX10_get (some .int) 3 RX10 wcX10_get p s m (List.toArray [.ref (B + v0), .int v1, .int v2]) meth c D E := ⟨hx, hb, hr, hml, hown, hts, hlocks, hK⟩
  have hl := lv_entry ([.ref (B + v0), .int v1, .int v2]) (n := 3) (Nat.le_of_ble_eq_true rfl)
  rw [lg_entry_eq]
  generalize (lg_sl ([.ref (B + v0), .int v1, .int v2]) ++ List.replicate (3 - (lg_sl ([.ref (B + v0), .int v1, .int v2])).length) Slot.unset).toArray = ls at hl ⊢
  have hl : lv_has ls 3 [(0, .ref (B + v0)), (1, .int v1), (2, .int v2)] := hl
  have hP : hs_P B D E g s.heap := hP
  unfold fX10_get at hf
  refine lv_aload_n hx hb dX10_get_0 rfl (lv_at hl 0 rfl) ?_
  obtain ⟨h1, hf⟩ := hs_ck hf
  obtain ⟨h2, hf⟩ := hs_ck hf
  refine hs_getr (C := RX10) (T := TX10) (N := 2) hx hb hts (fun w h => List.mem_cons_of_mem _ (inlX10 w h)) hown hK.1 hP h1 (by decide) rfl 1 (by decide) (hts _ (List.mem_cons_of_mem _ wq106)) (fun _ h => h) rfl h2 dX10_get_1 ?_
  refine lv_iload_n hx hb dX10_get_4 rfl (lv_at hl 1 rfl) ?_
  refine lv_sipush (v := 1000) hx hb dX10_get_5 (by decide) ?_
  refine lv_imul hx hb dX10_get_8 ?_
  refine lv_iload_n hx hb dX10_get_9 rfl (lv_at hl 2 rfl) ?_
  refine lv_iadd hx hb dX10_get_10 ?_
  obtain ⟨r4, g3, h5, hf⟩ := hs_bd_some hf
  refine hs_calli (va_runS (As := [.ref (B + ((hs_R g v0 1) - 1)), .int ((v1 * (1000 : Int32)) + v2)]) (rest := []) ⟨hx, hb, hml, hown, hts⟩ (ctX9_at l B D E ((hs_R g v0 1) - 1) ((v1 * (1000 : Int32)) + v2) g _ h5) (va_cwS 2 hts (hs_gS (fun _ h => List.mem_cons_of_mem _ h) wq817 wq193 wq68 wq194) rfl rfl rfl (by decide +kernel) ⟨Nat.le_of_ble_eq_true rfl, Nat.le_of_ble_eq_true rfl⟩) (hs_pre hP hK) rfl rfl hl.1 rfl (lv_room (Nat.le_of_ble_eq_true rfl)) dX10_get_11 ⟨(Nat.le_of_ble_eq_true rfl), (Nat.le_of_ble_eq_true rfl)⟩) hS (fun H locs hP hS => ?_)
  exact hs_iret hx hb hr hlocks rfl hK hP hS hf dX10_get_14

theorem dX6_actOnArray_0 : decode cX6_actOnArray 0 = .ok (.aload_n 1, 1) := by decide +kernel
theorem dX6_actOnArray_1 : decode cX6_actOnArray 1 = .ok (.invokevirtual 135, 3) := by decide +kernel
theorem dX6_actOnArray_4 : decode cX6_actOnArray 4 = .ok (.istore_n 3, 1) := by decide +kernel
theorem dX6_actOnArray_5 : decode cX6_actOnArray 5 = .ok (.iload_n 2, 1) := by decide +kernel
theorem dX6_actOnArray_6 : decode cX6_actOnArray 6 = .ok (.sipush 188, 3) := by decide +kernel
theorem dX6_actOnArray_9 : decode cX6_actOnArray 9 = .ok (.if_icmp .ne 16, 3) := by decide +kernel
theorem dX6_actOnArray_12 : decode cX6_actOnArray 12 = .ok (.aload_n 0, 1) := by decide +kernel
theorem dX6_actOnArray_13 : decode cX6_actOnArray 13 = .ok (.getfield 20, 3) := by decide +kernel
theorem dX6_actOnArray_16 : decode cX6_actOnArray 16 = .ok (.iload_n 3, 1) := by decide +kernel
theorem dX6_actOnArray_17 : decode cX6_actOnArray 17 = .ok (.aload_n 1, 1) := by decide +kernel
theorem dX6_actOnArray_18 : decode cX6_actOnArray 18 = .ok (.invokevirtual 112, 3) := by decide +kernel
theorem dX6_actOnArray_21 : decode cX6_actOnArray 21 = .ok (.invokevirtual 173, 3) := by decide +kernel
theorem dX6_actOnArray_24 : decode cX6_actOnArray 24 = .ok (.ireturn, 1) := by decide +kernel
theorem dX6_actOnArray_25 : decode cX6_actOnArray 25 = .ok (.iload_n 2, 1) := by decide +kernel
theorem dX6_actOnArray_26 : decode cX6_actOnArray 26 = .ok (.sipush 190, 3) := by decide +kernel
theorem dX6_actOnArray_29 : decode cX6_actOnArray 29 = .ok (.if_icmp .ne 17, 3) := by decide +kernel
theorem dX6_actOnArray_32 : decode cX6_actOnArray 32 = .ok (.aload_n 1, 1) := by decide +kernel
theorem dX6_actOnArray_33 : decode cX6_actOnArray 33 = .ok (.aload_n 0, 1) := by decide +kernel
theorem dX6_actOnArray_34 : decode cX6_actOnArray 34 = .ok (.getfield 20, 3) := by decide +kernel
theorem dX6_actOnArray_37 : decode cX6_actOnArray 37 = .ok (.iload_n 3, 1) := by decide +kernel
theorem dX6_actOnArray_38 : decode cX6_actOnArray 38 = .ok (.invokevirtual 176, 3) := by decide +kernel
theorem dX6_actOnArray_41 : decode cX6_actOnArray 41 = .ok (.invokevirtual 138, 3) := by decide +kernel
theorem dX6_actOnArray_44 : decode cX6_actOnArray 44 = .ok (.iconst 0, 1) := by decide +kernel
theorem dX6_actOnArray_45 : decode cX6_actOnArray 45 = .ok (.ireturn, 1) := by decide +kernel
theorem dX6_actOnArray_46 : decode cX6_actOnArray 46 = .ok (.iload_n 2, 1) := by decide +kernel
theorem dX6_actOnArray_47 : decode cX6_actOnArray 47 = .ok (.bipush 79, 2) := by decide +kernel
theorem dX6_actOnArray_49 : decode cX6_actOnArray 49 = .ok (.if_icmp .ne 10, 3) := by decide +kernel
theorem dX6_actOnArray_52 : decode cX6_actOnArray 52 = .ok (.aload_n 1, 1) := by decide +kernel
theorem dX6_actOnArray_53 : decode cX6_actOnArray 53 = .ok (.invokevirtual 112, 3) := by decide +kernel
theorem dX6_actOnArray_56 : decode cX6_actOnArray 56 = .ok (.goto 4, 3) := by decide +kernel
theorem dX6_actOnArray_59 : decode cX6_actOnArray 59 = .ok (.iconst 0, 1) := by decide +kernel
theorem dX6_actOnArray_60 : decode cX6_actOnArray 60 = .ok (.istore 4, 2) := by decide +kernel
theorem dX6_actOnArray_62 : decode cX6_actOnArray 62 = .ok (.aload_n 1, 1) := by decide +kernel
theorem dX6_actOnArray_63 : decode cX6_actOnArray 63 = .ok (.invokevirtual 112, 3) := by decide +kernel
theorem dX6_actOnArray_66 : decode cX6_actOnArray 66 = .ok (.istore 5, 2) := by decide +kernel
theorem dX6_actOnArray_68 : decode cX6_actOnArray 68 = .ok (.aload_n 0, 1) := by decide +kernel
theorem dX6_actOnArray_69 : decode cX6_actOnArray 69 = .ok (.getfield 20, 3) := by decide +kernel
theorem dX6_actOnArray_72 : decode cX6_actOnArray 72 = .ok (.iload_n 3, 1) := by decide +kernel
theorem dX6_actOnArray_73 : decode cX6_actOnArray 73 = .ok (.iload 5, 2) := by decide +kernel
theorem dX6_actOnArray_75 : decode cX6_actOnArray 75 = .ok (.invokevirtual 177, 3) := by decide +kernel
theorem dX6_actOnArray_78 : decode cX6_actOnArray 78 = .ok (.ifCond .ne 5, 3) := by decide +kernel
theorem dX6_actOnArray_81 : decode cX6_actOnArray 81 = .ok (.iconst 2, 1) := by decide +kernel
theorem dX6_actOnArray_82 : decode cX6_actOnArray 82 = .ok (.ireturn, 1) := by decide +kernel
theorem dX6_actOnArray_83 : decode cX6_actOnArray 83 = .ok (.iload_n 2, 1) := by decide +kernel
theorem dX6_actOnArray_84 : decode cX6_actOnArray 84 = .ok (.bipush 79, 2) := by decide +kernel
theorem dX6_actOnArray_86 : decode cX6_actOnArray 86 = .ok (.if_icmp .ne 18, 3) := by decide +kernel
theorem dX6_actOnArray_89 : decode cX6_actOnArray 89 = .ok (.aload_n 0, 1) := by decide +kernel
theorem dX6_actOnArray_90 : decode cX6_actOnArray 90 = .ok (.getfield 20, 3) := by decide +kernel
theorem dX6_actOnArray_93 : decode cX6_actOnArray 93 = .ok (.iload_n 3, 1) := by decide +kernel
theorem dX6_actOnArray_94 : decode cX6_actOnArray 94 = .ok (.iload 5, 2) := by decide +kernel
theorem dX6_actOnArray_96 : decode cX6_actOnArray 96 = .ok (.iload 4, 2) := by decide +kernel
theorem dX6_actOnArray_98 : decode cX6_actOnArray 98 = .ok (.invokevirtual 180, 3) := by decide +kernel
theorem dX6_actOnArray_101 : decode cX6_actOnArray 101 = .ok (.goto 17, 3) := by decide +kernel
theorem dX6_actOnArray_104 : decode cX6_actOnArray 104 = .ok (.aload_n 1, 1) := by decide +kernel
theorem dX6_actOnArray_105 : decode cX6_actOnArray 105 = .ok (.aload_n 0, 1) := by decide +kernel
theorem dX6_actOnArray_106 : decode cX6_actOnArray 106 = .ok (.getfield 20, 3) := by decide +kernel
theorem dX6_actOnArray_109 : decode cX6_actOnArray 109 = .ok (.iload_n 3, 1) := by decide +kernel
theorem dX6_actOnArray_110 : decode cX6_actOnArray 110 = .ok (.iload 5, 2) := by decide +kernel
theorem dX6_actOnArray_112 : decode cX6_actOnArray 112 = .ok (.invokevirtual 184, 3) := by decide +kernel
theorem dX6_actOnArray_115 : decode cX6_actOnArray 115 = .ok (.invokevirtual 138, 3) := by decide +kernel
theorem dX6_actOnArray_118 : decode cX6_actOnArray 118 = .ok (.iconst 0, 1) := by decide +kernel
theorem dX6_actOnArray_119 : decode cX6_actOnArray 119 = .ok (.ireturn, 1) := by decide +kernel
abbrev wcX6_actOnArray : List Cond := .code yX6_actOnArray cX6_actOnArray 6 (some .int) :: wsL_law
def jX6_actOnArray_60 (v0 : Nat) (v1 : Nat) (v2 : Int32) (v3 : Int32) (s0 : Int32) (g : hs_S) : Option (Int32 × hs_S) :=
  if hs_kd g v1 = 3 then
  hs_bd (fX3_pop v1 g) fun r7 g6 =>
  if hs_kd g6 v0 = 5 then
  if ¬ (hs_R g6 v0 2) = 0 then
  if hs_kd g6 ((hs_R g6 v0 2) - 1) = 8 then
  hs_bd (fX10_has ((hs_R g6 v0 2) - 1) v3 r7 g6) fun r13 g12 =>
  if r13 = 0 then (
    some ((2 : Int32), g12)
  ) else (
    if v2 = (79 : Int32) then (
      if hs_kd g12 v0 = 5 then
      if ¬ (hs_R g12 v0 2) = 0 then
      if hs_kd g12 ((hs_R g12 v0 2) - 1) = 8 then
      hs_bv (fX10_put ((hs_R g12 v0 2) - 1) v3 r7 s0 g12) fun g28 =>
      some ((0 : Int32), g28)
      else none else none else none
    ) else (
      if hs_kd g12 v0 = 5 then
      if ¬ (hs_R g12 v0 2) = 0 then
      if hs_kd g12 ((hs_R g12 v0 2) - 1) = 8 then
      hs_bd (fX10_get ((hs_R g12 v0 2) - 1) v3 r7 g12) fun r19 g18 =>
      if hs_kd g18 v1 = 3 then
      hs_bv (fX3_push v1 r19 g18) fun g22 =>
      some ((0 : Int32), g22)
      else none else none else none else none
    )
  )
  else none else none else none else none
def fX6_actOnArray (v0 : Nat) (v1 : Nat) (v2 : Int32) (g : hs_S) : Option (Int32 × hs_S) :=
  if hs_kd g v1 = 3 then
  hs_bd (fX3_operand v1 g) fun r3 g2 =>
  if v2 = (188 : Int32) then (
    if hs_kd g2 v0 = 5 then
    if ¬ (hs_R g2 v0 2) = 0 then
    if hs_kd g2 v1 = 3 then
    hs_bd (fX3_pop v1 g2) fun r49 g48 =>
    if hs_kd g48 ((hs_R g2 v0 2) - 1) = 8 then
    hs_bd (fX10_make ((hs_R g2 v0 2) - 1) r3 r49 g48) fun r53 g52 =>
    some (r53, g52)
    else none else none else none else none
  ) else (
    if v2 = (190 : Int32) then (
      if hs_kd g2 v0 = 5 then
      if ¬ (hs_R g2 v0 2) = 0 then
      if hs_kd g2 ((hs_R g2 v0 2) - 1) = 8 then
      hs_bd (fX10_sizeOf ((hs_R g2 v0 2) - 1) r3 g2) fun r39 g38 =>
      if hs_kd g38 v1 = 3 then
      hs_bv (fX3_push v1 r39 g38) fun g42 =>
      some ((0 : Int32), g42)
      else none else none else none else none
    ) else (
      if v2 = (79 : Int32) then (
        if hs_kd g2 v1 = 3 then
        hs_bd (fX3_pop v1 g2) fun r33 g32 =>
        jX6_actOnArray_60 v0 v1 v2 r3 r33 g32
        else none
      ) else (
        jX6_actOnArray_60 v0 v1 v2 r3 (0 : Int32) g2
      )
    )
  )
  else none
abbrev rmX6_actOnArray : Room := { frames := 3, cells := 0, slots := 0, locals := 68 }
set_option maxHeartbeats 4000000 in
set_option maxRecDepth 100000 in
theorem wX6_actOnArray_j60 {p : Program} {l : Launch} {e : Env} {s : State} {m : MethodId} {args : Array Value} {below : List Frame} {meth : Method} {c : Code} {B : Nat} {D : va_G} {E : Nat → ClassId} (hX : hs_cx cX6_actOnArray (some .int) 6 RX6 wcX6_actOnArray p s m args meth c D E) {o : Int32 × hs_S}  {v0 : Nat} {v1 : Nat} {v2 : Int32} {v3 : Int32} {s0 : Int32}   {g : hs_S} {H : Heap} {locs : List Loc} {ls : Array Slot} (hf : jX6_actOnArray_60 v0 v1 v2 v3 s0 g = some o) (hP : hs_P B D E g H) (hS : hs_Sx B s.heap H locs) (hl : lv_has ls 6 [(0, .ref (B + v0)), (1, .ref (B + v1)), (2, .int v2), (3, .int v3)]) : W p l e rmX6_actOnArray s m args below meth c H locs 0 0 (MQ below (hs_Qi B D E o) args s 0 0 (hs_F B)) (F0 m 60 ls [.int s0]) := by
  obtain ⟨hx, hb, hr, hml, hown, hts, hlocks, hK⟩ := id hX
  unfold jX6_actOnArray_60 at hf
  refine lv_istore (lv' := [(4, .int s0), (0, .ref (B + v0)), (1, .ref (B + v1)), (2, .int v2), (3, .int v3)]) hx hb dX6_actOnArray_60 hl (by decide) rfl (fun ls hl => ?_)
  refine lv_aload_n hx hb dX6_actOnArray_62 rfl (lv_at hl 2 rfl) ?_
  obtain ⟨h5, hf⟩ := hs_ck hf
  obtain ⟨r7, g6, h8, hf⟩ := hs_bd_some hf
  refine hs_calli (va_runV (As := []) (rest := []) ⟨hx, hb, hml, hown, hts⟩ (ctX3_pop l B D E v1 g _ h8) (cwV 0 hts (hs_gV (fun _ h => List.mem_cons_of_mem _ h) wq767 wq768 wq769 wq101 wq770) rfl rfl rfl (by decide +kernel) ⟨Nat.le_of_ble_eq_true rfl, Nat.le_of_ble_eq_true rfl⟩) (hs_preV (r := (RX3, TX3, 5)) hP hK h5 (by decide) rfl) rfl rfl hl.1 rfl (lv_room (Nat.le_of_ble_eq_true rfl)) dX6_actOnArray_63 ⟨(Nat.le_of_ble_eq_true rfl), (Nat.le_of_ble_eq_true rfl)⟩) hS (fun H locs hP hS => ?_)
  refine lv_istore (lv' := [(5, .int r7), (4, .int s0), (0, .ref (B + v0)), (1, .ref (B + v1)), (2, .int v2), (3, .int v3)]) hx hb dX6_actOnArray_66 hl (by decide) rfl (fun ls hl => ?_)
  refine lv_aload_n hx hb dX6_actOnArray_68 rfl (lv_at hl 2 rfl) ?_
  obtain ⟨h9, hf⟩ := hs_ck hf
  obtain ⟨h10, hf⟩ := hs_ck hf
  refine hs_getr (C := RX6) (T := TX6) (N := 8) hx hb hts (fun w h => List.mem_cons_of_mem _ (inlX6 w h)) hown hK.1 hP h9 (by decide) rfl 2 (by decide) (hts _ (List.mem_cons_of_mem _ wq98)) (fun _ h => h) rfl h10 dX6_actOnArray_69 ?_
  refine lv_iload_n hx hb dX6_actOnArray_72 rfl (lv_at hl 5 rfl) ?_
  refine lv_iload hx hb dX6_actOnArray_73 (lv_at hl 0 rfl) ?_
  obtain ⟨h11, hf⟩ := hs_ck hf
  obtain ⟨r13, g12, h14, hf⟩ := hs_bd_some hf
  refine hs_calli (va_runV (As := [.int v3, .int r7]) (rest := []) ⟨hx, hb, hml, hown, hts⟩ (ctX10_has l B D E ((hs_R g6 v0 2) - 1) v3 r7 g6 _ h14) (cwV 2 hts (hs_gV (fun _ h => List.mem_cons_of_mem _ h) wq818 wq819 wq820 wq97 wq821) rfl rfl rfl (by decide +kernel) ⟨Nat.le_of_ble_eq_true rfl, Nat.le_of_ble_eq_true rfl⟩) (hs_preV (r := (RX10, TX10, 2)) hP hK h11 (by decide) rfl) rfl rfl hl.1 rfl (lv_room (Nat.le_of_ble_eq_true rfl)) dX6_actOnArray_75 ⟨(Nat.le_of_ble_eq_true rfl), (Nat.le_of_ble_eq_true rfl)⟩) hS (fun H locs hP hS => ?_)
  refine lv_if_ne (tgt := 83) hx hb dX6_actOnArray_78 (by decide) (fun hc => ?_) (fun hc => ?_)
  · replace hf := hs_f hf hc
    refine lv_iload_n hx hb dX6_actOnArray_83 rfl (lv_at hl 4 rfl) ?_
    refine lv_bipush (v := 79) hx hb dX6_actOnArray_84 (by decide) ?_
    refine lv_icmp_ne (tgt := 104) hx hb dX6_actOnArray_86 (by decide) (fun hc => ?_) (fun hc => ?_)
    · replace hf := hs_f hf hc
      refine lv_aload_n hx hb dX6_actOnArray_104 rfl (lv_at hl 3 rfl) ?_
      refine lv_aload_n hx hb dX6_actOnArray_105 rfl (lv_at hl 2 rfl) ?_
      obtain ⟨h15, hf⟩ := hs_ck hf
      obtain ⟨h16, hf⟩ := hs_ck hf
      refine hs_getr (C := RX6) (T := TX6) (N := 8) hx hb hts (fun w h => List.mem_cons_of_mem _ (inlX6 w h)) hown hK.1 hP h15 (by decide) rfl 2 (by decide) (hts _ (List.mem_cons_of_mem _ wq98)) (fun _ h => h) rfl h16 dX6_actOnArray_106 ?_
      refine lv_iload_n hx hb dX6_actOnArray_109 rfl (lv_at hl 5 rfl) ?_
      refine lv_iload hx hb dX6_actOnArray_110 (lv_at hl 0 rfl) ?_
      obtain ⟨h17, hf⟩ := hs_ck hf
      obtain ⟨r19, g18, h20, hf⟩ := hs_bd_some hf
      refine hs_calli (va_runV (As := [.int v3, .int r7]) (rest := [.ref (B + v1)]) ⟨hx, hb, hml, hown, hts⟩ (ctX10_get l B D E ((hs_R g12 v0 2) - 1) v3 r7 g12 _ h20) (cwV 2 hts (hs_gV (fun _ h => List.mem_cons_of_mem _ h) wq824 wq825 wq826 wq97 wq827) rfl rfl rfl (by decide +kernel) ⟨Nat.le_of_ble_eq_true rfl, Nat.le_of_ble_eq_true rfl⟩) (hs_preV (r := (RX10, TX10, 2)) hP hK h17 (by decide) rfl) rfl rfl hl.1 rfl (lv_room (Nat.le_of_ble_eq_true rfl)) dX6_actOnArray_112 ⟨(Nat.le_of_ble_eq_true rfl), (Nat.le_of_ble_eq_true rfl)⟩) hS (fun H locs hP hS => ?_)
      obtain ⟨h21, hf⟩ := hs_ck hf
      obtain ⟨g22, h24, hf⟩ := hs_bv_some hf
      refine hs_callv (va_runV (As := [.int r19]) (rest := []) ⟨hx, hb, hml, hown, hts⟩ (ctX3_push l B D E v1 r19 g18 _ h24) (cwV 1 hts (hs_gV (fun _ h => List.mem_cons_of_mem _ h) wq775 wq776 wq777 wq101 wq778) rfl rfl rfl (by decide +kernel) ⟨Nat.le_of_ble_eq_true rfl, Nat.le_of_ble_eq_true rfl⟩) (hs_preV (r := (RX3, TX3, 5)) hP hK h21 (by decide) rfl) rfl rfl hl.1 rfl (lv_room (Nat.le_of_ble_eq_true rfl)) dX6_actOnArray_115 ⟨(Nat.le_of_ble_eq_true rfl), (Nat.le_of_ble_eq_true rfl)⟩) hS (fun H locs hP hS => ?_)
      refine lv_iconst (v := 0) hx hb dX6_actOnArray_118 (by decide) ?_
      exact hs_iret hx hb hr hlocks rfl hK hP hS hf dX6_actOnArray_119
    · replace hf := hs_t hf hc
      refine lv_aload_n hx hb dX6_actOnArray_89 rfl (lv_at hl 2 rfl) ?_
      obtain ⟨h25, hf⟩ := hs_ck hf
      obtain ⟨h26, hf⟩ := hs_ck hf
      refine hs_getr (C := RX6) (T := TX6) (N := 8) hx hb hts (fun w h => List.mem_cons_of_mem _ (inlX6 w h)) hown hK.1 hP h25 (by decide) rfl 2 (by decide) (hts _ (List.mem_cons_of_mem _ wq98)) (fun _ h => h) rfl h26 dX6_actOnArray_90 ?_
      refine lv_iload_n hx hb dX6_actOnArray_93 rfl (lv_at hl 5 rfl) ?_
      refine lv_iload hx hb dX6_actOnArray_94 (lv_at hl 0 rfl) ?_
      refine lv_iload hx hb dX6_actOnArray_96 (lv_at hl 1 rfl) ?_
      obtain ⟨h27, hf⟩ := hs_ck hf
      obtain ⟨g28, h30, hf⟩ := hs_bv_some hf
      refine hs_callv (va_runV (As := [.int v3, .int r7, .int s0]) (rest := []) ⟨hx, hb, hml, hown, hts⟩ (ctX10_put l B D E ((hs_R g12 v0 2) - 1) v3 r7 s0 g12 _ h30) (cwV 3 hts (hs_gV (fun _ h => List.mem_cons_of_mem _ h) wq823 wq810 wq811 wq97 wq812) rfl rfl rfl (by decide +kernel) ⟨Nat.le_of_ble_eq_true rfl, Nat.le_of_ble_eq_true rfl⟩) (hs_preV (r := (RX10, TX10, 2)) hP hK h27 (by decide) rfl) rfl rfl hl.1 rfl (lv_room (Nat.le_of_ble_eq_true rfl)) dX6_actOnArray_98 ⟨(Nat.le_of_ble_eq_true rfl), (Nat.le_of_ble_eq_true rfl)⟩) hS (fun H locs hP hS => ?_)
      refine lv_goto (tgt := 118) hx hb dX6_actOnArray_101 (by decide) ?_
      refine lv_iconst (v := 0) hx hb dX6_actOnArray_118 (by decide) ?_
      exact hs_iret hx hb hr hlocks rfl hK hP hS hf dX6_actOnArray_119
  · replace hf := hs_t hf hc
    refine lv_iconst (v := 2) hx hb dX6_actOnArray_81 (by decide) ?_
    exact hs_iret hx hb hr hlocks rfl hK hP hS hf dX6_actOnArray_82

set_option maxHeartbeats 4000000 in
set_option maxRecDepth 100000 in
theorem ctX6_actOnArray (l : Launch) (B : Nat) (D : va_G) (E : Nat → ClassId) (v0 : Nat) (v1 : Nat) (v2 : Int32) (g : hs_S) (o : Int32 × hs_S) (hf : fX6_actOnArray v0 v1 v2 g = some o) : Met l yX6_actOnArray wcX6_actOnArray rmX6_actOnArray (hs_Pc B D E g [.ref (B + v0), .ref (B + v1), .int v2]) (hs_Qi B D E o) (0) (0) (hs_F B) := by
  refine Met.ofW (cc := cX6_actOnArray) (maxL := 6) (ret := (some .int)) (by decide) rfl ?_
  intro p e s m args below meth c s₁ Bd hml hv
  obtain ⟨rfl, hP, hK⟩ := hv
  have hx := Bd.exec
  have hb := Bd.bytes
  have hr := Bd.returns
  have hts := atoms_spec (ws := wcX6_actOnArray) Bd.pre
  have hown : s.vm.findClass RX6 = some m.cls := findClass_of_methodNamed Bd.named
  have hlocks := Bd.notSynchronized
  have hS : hs_Sx B s.heap s.heap [] := va_S.rf
  have hX : hs_cx cX6_actOnArray (some .int) 6 RX6 wcX6_actOnArray p s m (List.toArray [.ref (B + v0), .ref (B + v1), .int v2]) meth c D E := ⟨hx, hb, hr, hml, hown, hts, hlocks, hK⟩
  have hl := lv_entry ([.ref (B + v0), .ref (B + v1), .int v2]) (n := 6) (Nat.le_of_ble_eq_true rfl)
  rw [lg_entry_eq]
  generalize (lg_sl ([.ref (B + v0), .ref (B + v1), .int v2]) ++ List.replicate (6 - (lg_sl ([.ref (B + v0), .ref (B + v1), .int v2])).length) Slot.unset).toArray = ls at hl ⊢
  have hl : lv_has ls 6 [(0, .ref (B + v0)), (1, .ref (B + v1)), (2, .int v2)] := hl
  have hP : hs_P B D E g s.heap := hP
  unfold fX6_actOnArray at hf
  refine lv_aload_n hx hb dX6_actOnArray_0 rfl (lv_at hl 1 rfl) ?_
  obtain ⟨h1, hf⟩ := hs_ck hf
  obtain ⟨r3, g2, h4, hf⟩ := hs_bd_some hf
  refine hs_calli (va_runV (As := []) (rest := []) ⟨hx, hb, hml, hown, hts⟩ (ctX3_operand l B D E v1 g _ h4) (cwV 0 hts (hs_gV (fun _ h => List.mem_cons_of_mem _ h) wq763 wq764 wq765 wq101 wq766) rfl rfl rfl (by decide +kernel) ⟨Nat.le_of_ble_eq_true rfl, Nat.le_of_ble_eq_true rfl⟩) (hs_preV (r := (RX3, TX3, 5)) hP hK h1 (by decide) rfl) rfl rfl hl.1 rfl (lv_room (Nat.le_of_ble_eq_true rfl)) dX6_actOnArray_1 ⟨(Nat.le_of_ble_eq_true rfl), (Nat.le_of_ble_eq_true rfl)⟩) hS (fun H locs hP hS => ?_)
  refine lv_istore_n (lv' := [(3, .int r3), (0, .ref (B + v0)), (1, .ref (B + v1)), (2, .int v2)]) hx hb dX6_actOnArray_4 rfl hl (by decide) rfl (fun ls hl => ?_)
  refine lv_iload_n hx hb dX6_actOnArray_5 rfl (lv_at hl 3 rfl) ?_
  refine lv_sipush (v := 188) hx hb dX6_actOnArray_6 (by decide) ?_
  refine lv_icmp_ne (tgt := 25) hx hb dX6_actOnArray_9 (by decide) (fun hc => ?_) (fun hc => ?_)
  · replace hf := hs_f hf hc
    refine lv_iload_n hx hb dX6_actOnArray_25 rfl (lv_at hl 3 rfl) ?_
    refine lv_sipush (v := 190) hx hb dX6_actOnArray_26 (by decide) ?_
    refine lv_icmp_ne (tgt := 46) hx hb dX6_actOnArray_29 (by decide) (fun hc => ?_) (fun hc => ?_)
    · replace hf := hs_f hf hc
      refine lv_iload_n hx hb dX6_actOnArray_46 rfl (lv_at hl 3 rfl) ?_
      refine lv_bipush (v := 79) hx hb dX6_actOnArray_47 (by decide) ?_
      refine lv_icmp_ne (tgt := 59) hx hb dX6_actOnArray_49 (by decide) (fun hc => ?_) (fun hc => ?_)
      · replace hf := hs_f hf hc
        refine lv_iconst (v := 0) hx hb dX6_actOnArray_59 (by decide) ?_
        exact wX6_actOnArray_j60 hX hf hP hS (lv_sub hl [1, 2, 3, 0] rfl)
      · replace hf := hs_t hf hc
        refine lv_aload_n hx hb dX6_actOnArray_52 rfl (lv_at hl 2 rfl) ?_
        obtain ⟨h31, hf⟩ := hs_ck hf
        obtain ⟨r33, g32, h34, hf⟩ := hs_bd_some hf
        refine hs_calli (va_runV (As := []) (rest := []) ⟨hx, hb, hml, hown, hts⟩ (ctX3_pop l B D E v1 g2 _ h34) (cwV 0 hts (hs_gV (fun _ h => List.mem_cons_of_mem _ h) wq767 wq768 wq769 wq101 wq770) rfl rfl rfl (by decide +kernel) ⟨Nat.le_of_ble_eq_true rfl, Nat.le_of_ble_eq_true rfl⟩) (hs_preV (r := (RX3, TX3, 5)) hP hK h31 (by decide) rfl) rfl rfl hl.1 rfl (lv_room (Nat.le_of_ble_eq_true rfl)) dX6_actOnArray_53 ⟨(Nat.le_of_ble_eq_true rfl), (Nat.le_of_ble_eq_true rfl)⟩) hS (fun H locs hP hS => ?_)
        refine lv_goto (tgt := 60) hx hb dX6_actOnArray_56 (by decide) ?_
        exact wX6_actOnArray_j60 hX hf hP hS (lv_sub hl [1, 2, 3, 0] rfl)
    · replace hf := hs_t hf hc
      refine lv_aload_n hx hb dX6_actOnArray_32 rfl (lv_at hl 2 rfl) ?_
      refine lv_aload_n hx hb dX6_actOnArray_33 rfl (lv_at hl 1 rfl) ?_
      obtain ⟨h35, hf⟩ := hs_ck hf
      obtain ⟨h36, hf⟩ := hs_ck hf
      refine hs_getr (C := RX6) (T := TX6) (N := 8) hx hb hts (fun w h => List.mem_cons_of_mem _ (inlX6 w h)) hown hK.1 hP h35 (by decide) rfl 2 (by decide) (hts _ (List.mem_cons_of_mem _ wq98)) (fun _ h => h) rfl h36 dX6_actOnArray_34 ?_
      refine lv_iload_n hx hb dX6_actOnArray_37 rfl (lv_at hl 0 rfl) ?_
      obtain ⟨h37, hf⟩ := hs_ck hf
      obtain ⟨r39, g38, h40, hf⟩ := hs_bd_some hf
      refine hs_calli (va_runV (As := [.int r3]) (rest := [.ref (B + v1)]) ⟨hx, hb, hml, hown, hts⟩ (ctX10_sizeOf l B D E ((hs_R g2 v0 2) - 1) r3 g2 _ h40) (cwV 1 hts (hs_gV (fun _ h => List.mem_cons_of_mem _ h) wq813 wq814 wq815 wq97 wq816) rfl rfl rfl (by decide +kernel) ⟨Nat.le_of_ble_eq_true rfl, Nat.le_of_ble_eq_true rfl⟩) (hs_preV (r := (RX10, TX10, 2)) hP hK h37 (by decide) rfl) rfl rfl hl.1 rfl (lv_room (Nat.le_of_ble_eq_true rfl)) dX6_actOnArray_38 ⟨(Nat.le_of_ble_eq_true rfl), (Nat.le_of_ble_eq_true rfl)⟩) hS (fun H locs hP hS => ?_)
      obtain ⟨h41, hf⟩ := hs_ck hf
      obtain ⟨g42, h44, hf⟩ := hs_bv_some hf
      refine hs_callv (va_runV (As := [.int r39]) (rest := []) ⟨hx, hb, hml, hown, hts⟩ (ctX3_push l B D E v1 r39 g38 _ h44) (cwV 1 hts (hs_gV (fun _ h => List.mem_cons_of_mem _ h) wq775 wq776 wq777 wq101 wq778) rfl rfl rfl (by decide +kernel) ⟨Nat.le_of_ble_eq_true rfl, Nat.le_of_ble_eq_true rfl⟩) (hs_preV (r := (RX3, TX3, 5)) hP hK h41 (by decide) rfl) rfl rfl hl.1 rfl (lv_room (Nat.le_of_ble_eq_true rfl)) dX6_actOnArray_41 ⟨(Nat.le_of_ble_eq_true rfl), (Nat.le_of_ble_eq_true rfl)⟩) hS (fun H locs hP hS => ?_)
      refine lv_iconst (v := 0) hx hb dX6_actOnArray_44 (by decide) ?_
      exact hs_iret hx hb hr hlocks rfl hK hP hS hf dX6_actOnArray_45
  · replace hf := hs_t hf hc
    refine lv_aload_n hx hb dX6_actOnArray_12 rfl (lv_at hl 1 rfl) ?_
    obtain ⟨h45, hf⟩ := hs_ck hf
    obtain ⟨h46, hf⟩ := hs_ck hf
    refine hs_getr (C := RX6) (T := TX6) (N := 8) hx hb hts (fun w h => List.mem_cons_of_mem _ (inlX6 w h)) hown hK.1 hP h45 (by decide) rfl 2 (by decide) (hts _ (List.mem_cons_of_mem _ wq98)) (fun _ h => h) rfl h46 dX6_actOnArray_13 ?_
    refine lv_iload_n hx hb dX6_actOnArray_16 rfl (lv_at hl 0 rfl) ?_
    refine lv_aload_n hx hb dX6_actOnArray_17 rfl (lv_at hl 2 rfl) ?_
    obtain ⟨h47, hf⟩ := hs_ck hf
    obtain ⟨r49, g48, h50, hf⟩ := hs_bd_some hf
    refine hs_calli (va_runV (As := []) (rest := [.int r3, .ref (B + ((hs_R g2 v0 2) - 1))]) ⟨hx, hb, hml, hown, hts⟩ (ctX3_pop l B D E v1 g2 _ h50) (cwV 0 hts (hs_gV (fun _ h => List.mem_cons_of_mem _ h) wq767 wq768 wq769 wq101 wq770) rfl rfl rfl (by decide +kernel) ⟨Nat.le_of_ble_eq_true rfl, Nat.le_of_ble_eq_true rfl⟩) (hs_preV (r := (RX3, TX3, 5)) hP hK h47 (by decide) rfl) rfl rfl hl.1 rfl (lv_room (Nat.le_of_ble_eq_true rfl)) dX6_actOnArray_18 ⟨(Nat.le_of_ble_eq_true rfl), (Nat.le_of_ble_eq_true rfl)⟩) hS (fun H locs hP hS => ?_)
    obtain ⟨h51, hf⟩ := hs_ck hf
    obtain ⟨r53, g52, h54, hf⟩ := hs_bd_some hf
    refine hs_calli (va_runV (As := [.int r3, .int r49]) (rest := []) ⟨hx, hb, hml, hown, hts⟩ (ctX10_make l B D E ((hs_R g2 v0 2) - 1) r3 r49 g48 _ h54) (cwV 2 hts (hs_gV (fun _ h => List.mem_cons_of_mem _ h) wq804 wq805 wq806 wq97 wq807) rfl rfl rfl (by decide +kernel) ⟨Nat.le_of_ble_eq_true rfl, Nat.le_of_ble_eq_true rfl⟩) (hs_preV (r := (RX10, TX10, 2)) hP hK h51 (by decide) rfl) rfl rfl hl.1 rfl (lv_room (Nat.le_of_ble_eq_true rfl)) dX6_actOnArray_21 ⟨(Nat.le_of_ble_eq_true rfl), (Nat.le_of_ble_eq_true rfl)⟩) hS (fun H locs hP hS => ?_)
    exact hs_iret hx hb hr hlocks rfl hK hP hS hf dX6_actOnArray_24

theorem dX6_joined_0 : decode cX6_joined 0 = .ok (.iload_n 1, 1) := by decide +kernel
theorem dX6_joined_1 : decode cX6_joined 1 = .ok (.lookupswitch 71 #[(96, 51), (100, 55), (104, 59), (126, 63), (128, 67)], 51) := by decide +kernel
theorem dX6_joined_52 : decode cX6_joined 52 = .ok (.iload_n 2, 1) := by decide +kernel
theorem dX6_joined_53 : decode cX6_joined 53 = .ok (.iload_n 3, 1) := by decide +kernel
theorem dX6_joined_54 : decode cX6_joined 54 = .ok (.iadd, 1) := by decide +kernel
theorem dX6_joined_55 : decode cX6_joined 55 = .ok (.ireturn, 1) := by decide +kernel
theorem dX6_joined_56 : decode cX6_joined 56 = .ok (.iload_n 2, 1) := by decide +kernel
theorem dX6_joined_57 : decode cX6_joined 57 = .ok (.iload_n 3, 1) := by decide +kernel
theorem dX6_joined_58 : decode cX6_joined 58 = .ok (.isub, 1) := by decide +kernel
theorem dX6_joined_59 : decode cX6_joined 59 = .ok (.ireturn, 1) := by decide +kernel
theorem dX6_joined_60 : decode cX6_joined 60 = .ok (.iload_n 2, 1) := by decide +kernel
theorem dX6_joined_61 : decode cX6_joined 61 = .ok (.iload_n 3, 1) := by decide +kernel
theorem dX6_joined_62 : decode cX6_joined 62 = .ok (.imul, 1) := by decide +kernel
theorem dX6_joined_63 : decode cX6_joined 63 = .ok (.ireturn, 1) := by decide +kernel
theorem dX6_joined_64 : decode cX6_joined 64 = .ok (.iload_n 2, 1) := by decide +kernel
theorem dX6_joined_65 : decode cX6_joined 65 = .ok (.iload_n 3, 1) := by decide +kernel
theorem dX6_joined_66 : decode cX6_joined 66 = .ok (.iand, 1) := by decide +kernel
theorem dX6_joined_67 : decode cX6_joined 67 = .ok (.ireturn, 1) := by decide +kernel
theorem dX6_joined_68 : decode cX6_joined 68 = .ok (.iload_n 2, 1) := by decide +kernel
theorem dX6_joined_69 : decode cX6_joined 69 = .ok (.iload_n 3, 1) := by decide +kernel
theorem dX6_joined_70 : decode cX6_joined 70 = .ok (.ior, 1) := by decide +kernel
theorem dX6_joined_71 : decode cX6_joined 71 = .ok (.ireturn, 1) := by decide +kernel
theorem dX6_joined_72 : decode cX6_joined 72 = .ok (.iload_n 2, 1) := by decide +kernel
theorem dX6_joined_73 : decode cX6_joined 73 = .ok (.iload_n 3, 1) := by decide +kernel
theorem dX6_joined_74 : decode cX6_joined 74 = .ok (.ixor, 1) := by decide +kernel
theorem dX6_joined_75 : decode cX6_joined 75 = .ok (.ireturn, 1) := by decide +kernel
abbrev wcX6_joined : List Cond := .code yX6_joined cX6_joined 4 (some .int) :: wsL_law
def fX6_joined (v0 : Nat) (v1 : Int32) (v2 : Int32) (v3 : Int32) (g : hs_S) : Option (Int32 × hs_S) :=
  if v1 = (96 : Int32) then (
    some ((v2 + v3), g)
  ) else (
  if v1 = (100 : Int32) then (
    some ((v2 - v3), g)
  ) else (
  if v1 = (104 : Int32) then (
    some ((v2 * v3), g)
  ) else (
  if v1 = (126 : Int32) then (
    some ((v2 &&& v3), g)
  ) else (
  if v1 = (128 : Int32) then (
    some ((v2 ||| v3), g)
  ) else (
    some ((v2 ^^^ v3), g)
  )))))
abbrev rmX6_joined : Room := { frames := 0, cells := 0, slots := 0, locals := 0 }
set_option maxHeartbeats 4000000 in
set_option maxRecDepth 100000 in
theorem ctX6_joined (l : Launch) (B : Nat) (D : va_G) (E : Nat → ClassId) (v0 : Nat) (v1 : Int32) (v2 : Int32) (v3 : Int32) (g : hs_S) (o : Int32 × hs_S) (hf : fX6_joined v0 v1 v2 v3 g = some o) : Met l yX6_joined wcX6_joined rmX6_joined (hs_Pc B D E g [.ref (B + v0), .int v1, .int v2, .int v3]) (hs_Qi B D E o) (0) (0) (hs_F B) := by
  refine Met.ofW (cc := cX6_joined) (maxL := 4) (ret := (some .int)) (by decide) rfl ?_
  intro p e s m args below meth c s₁ Bd hml hv
  obtain ⟨rfl, hP, hK⟩ := hv
  have hx := Bd.exec
  have hb := Bd.bytes
  have hr := Bd.returns
  have hts := atoms_spec (ws := wcX6_joined) Bd.pre
  have hown : s.vm.findClass RX6 = some m.cls := findClass_of_methodNamed Bd.named
  have hlocks := Bd.notSynchronized
  have hS : hs_Sx B s.heap s.heap [] := va_S.rf
  have hX : hs_cx cX6_joined (some .int) 4 RX6 wcX6_joined p s m (List.toArray [.ref (B + v0), .int v1, .int v2, .int v3]) meth c D E := ⟨hx, hb, hr, hml, hown, hts, hlocks, hK⟩
  have hl := lv_entry ([.ref (B + v0), .int v1, .int v2, .int v3]) (n := 4) (Nat.le_of_ble_eq_true rfl)
  rw [lg_entry_eq]
  generalize (lg_sl ([.ref (B + v0), .int v1, .int v2, .int v3]) ++ List.replicate (4 - (lg_sl ([.ref (B + v0), .int v1, .int v2, .int v3])).length) Slot.unset).toArray = ls at hl ⊢
  have hl : lv_has ls 4 [(0, .ref (B + v0)), (1, .int v1), (2, .int v2), (3, .int v3)] := hl
  have hP : hs_P B D E g s.heap := hP
  unfold fX6_joined at hf
  refine lv_iload_n hx hb dX6_joined_0 rfl (lv_at hl 1 rfl) ?_
  by_cases hc : v1 = (96 : Int32)
  · replace hf := hs_t hf hc
    refine lv_lookup (off := 51) (tgt := 52) hx hb dX6_joined_1 (by decide +kernel) (by rw [hc]; first | done | decide +kernel) (by decide) ?_
    refine lv_iload_n hx hb dX6_joined_52 rfl (lv_at hl 2 rfl) ?_
    refine lv_iload_n hx hb dX6_joined_53 rfl (lv_at hl 3 rfl) ?_
    refine lv_iadd hx hb dX6_joined_54 ?_
    exact hs_iret hx hb hr hlocks rfl hK hP hS hf dX6_joined_55
  have hn0 := hc
  replace hf := hs_f hf hc
  clear hc
  by_cases hc : v1 = (100 : Int32)
  · replace hf := hs_t hf hc
    refine lv_lookup (off := 55) (tgt := 56) hx hb dX6_joined_1 (by decide +kernel) (by rw [hc]; first | done | decide +kernel) (by decide) ?_
    refine lv_iload_n hx hb dX6_joined_56 rfl (lv_at hl 2 rfl) ?_
    refine lv_iload_n hx hb dX6_joined_57 rfl (lv_at hl 3 rfl) ?_
    refine lv_isub hx hb dX6_joined_58 ?_
    exact hs_iret hx hb hr hlocks rfl hK hP hS hf dX6_joined_59
  have hn1 := hc
  replace hf := hs_f hf hc
  clear hc
  by_cases hc : v1 = (104 : Int32)
  · replace hf := hs_t hf hc
    refine lv_lookup (off := 59) (tgt := 60) hx hb dX6_joined_1 (by decide +kernel) (by rw [hc]; first | done | decide +kernel) (by decide) ?_
    refine lv_iload_n hx hb dX6_joined_60 rfl (lv_at hl 2 rfl) ?_
    refine lv_iload_n hx hb dX6_joined_61 rfl (lv_at hl 3 rfl) ?_
    refine lv_imul hx hb dX6_joined_62 ?_
    exact hs_iret hx hb hr hlocks rfl hK hP hS hf dX6_joined_63
  have hn2 := hc
  replace hf := hs_f hf hc
  clear hc
  by_cases hc : v1 = (126 : Int32)
  · replace hf := hs_t hf hc
    refine lv_lookup (off := 63) (tgt := 64) hx hb dX6_joined_1 (by decide +kernel) (by rw [hc]; first | done | decide +kernel) (by decide) ?_
    refine lv_iload_n hx hb dX6_joined_64 rfl (lv_at hl 2 rfl) ?_
    refine lv_iload_n hx hb dX6_joined_65 rfl (lv_at hl 3 rfl) ?_
    refine lv_iand hx hb dX6_joined_66 ?_
    exact hs_iret hx hb hr hlocks rfl hK hP hS hf dX6_joined_67
  have hn3 := hc
  replace hf := hs_f hf hc
  clear hc
  by_cases hc : v1 = (128 : Int32)
  · replace hf := hs_t hf hc
    refine lv_lookup (off := 67) (tgt := 68) hx hb dX6_joined_1 (by decide +kernel) (by rw [hc]; first | done | decide +kernel) (by decide) ?_
    refine lv_iload_n hx hb dX6_joined_68 rfl (lv_at hl 2 rfl) ?_
    refine lv_iload_n hx hb dX6_joined_69 rfl (lv_at hl 3 rfl) ?_
    refine lv_ior hx hb dX6_joined_70 ?_
    exact hs_iret hx hb hr hlocks rfl hK hP hS hf dX6_joined_71
  have hn4 := hc
  replace hf := hs_f hf hc
  clear hc
  refine lv_lookup (off := 71) (tgt := 72) hx hb dX6_joined_1 (by decide +kernel) (by simp only [Array.toList]; rw [lv_osw (a := 96) hn0 rfl, lv_osw (a := 100) hn1 rfl, lv_osw (a := 104) hn2 rfl, lv_osw (a := 126) hn3 rfl, lv_osw (a := 128) hn4 rfl]; first | done | rfl) (by decide) ?_
  refine lv_iload_n hx hb dX6_joined_72 rfl (lv_at hl 2 rfl) ?_
  refine lv_iload_n hx hb dX6_joined_73 rfl (lv_at hl 3 rfl) ?_
  refine lv_ixor hx hb dX6_joined_74 ?_
  exact hs_iret hx hb hr hlocks rfl hK hP hS hf dX6_joined_75

theorem dX6_actOnTwo_0 : decode cX6_actOnTwo 0 = .ok (.aload_n 1, 1) := by decide +kernel
theorem dX6_actOnTwo_1 : decode cX6_actOnTwo 1 = .ok (.invokevirtual 112, 3) := by decide +kernel
theorem dX6_actOnTwo_4 : decode cX6_actOnTwo 4 = .ok (.istore_n 3, 1) := by decide +kernel
theorem dX6_actOnTwo_5 : decode cX6_actOnTwo 5 = .ok (.aload_n 1, 1) := by decide +kernel
theorem dX6_actOnTwo_6 : decode cX6_actOnTwo 6 = .ok (.invokevirtual 112, 3) := by decide +kernel
theorem dX6_actOnTwo_9 : decode cX6_actOnTwo 9 = .ok (.istore 4, 2) := by decide +kernel
theorem dX6_actOnTwo_11 : decode cX6_actOnTwo 11 = .ok (.iload_n 2, 1) := by decide +kernel
theorem dX6_actOnTwo_12 : decode cX6_actOnTwo 12 = .ok (.bipush 108, 2) := by decide +kernel
theorem dX6_actOnTwo_14 : decode cX6_actOnTwo 14 = .ok (.if_icmp .eq 9, 3) := by decide +kernel
theorem dX6_actOnTwo_17 : decode cX6_actOnTwo 17 = .ok (.iload_n 2, 1) := by decide +kernel
theorem dX6_actOnTwo_18 : decode cX6_actOnTwo 18 = .ok (.bipush 112, 2) := by decide +kernel
theorem dX6_actOnTwo_20 : decode cX6_actOnTwo 20 = .ok (.if_icmp .ne 32, 3) := by decide +kernel
theorem dX6_actOnTwo_23 : decode cX6_actOnTwo 23 = .ok (.iload_n 3, 1) := by decide +kernel
theorem dX6_actOnTwo_24 : decode cX6_actOnTwo 24 = .ok (.ifCond .ne 5, 3) := by decide +kernel
theorem dX6_actOnTwo_27 : decode cX6_actOnTwo 27 = .ok (.iconst 1, 1) := by decide +kernel
theorem dX6_actOnTwo_28 : decode cX6_actOnTwo 28 = .ok (.ireturn, 1) := by decide +kernel
theorem dX6_actOnTwo_29 : decode cX6_actOnTwo 29 = .ok (.aload_n 1, 1) := by decide +kernel
theorem dX6_actOnTwo_30 : decode cX6_actOnTwo 30 = .ok (.iload_n 2, 1) := by decide +kernel
theorem dX6_actOnTwo_31 : decode cX6_actOnTwo 31 = .ok (.bipush 108, 2) := by decide +kernel
theorem dX6_actOnTwo_33 : decode cX6_actOnTwo 33 = .ok (.if_icmp .ne 10, 3) := by decide +kernel
theorem dX6_actOnTwo_36 : decode cX6_actOnTwo 36 = .ok (.iload 4, 2) := by decide +kernel
theorem dX6_actOnTwo_38 : decode cX6_actOnTwo 38 = .ok (.iload_n 3, 1) := by decide +kernel
theorem dX6_actOnTwo_39 : decode cX6_actOnTwo 39 = .ok (.idiv, 1) := by decide +kernel
theorem dX6_actOnTwo_40 : decode cX6_actOnTwo 40 = .ok (.goto 7, 3) := by decide +kernel
theorem dX6_actOnTwo_43 : decode cX6_actOnTwo 43 = .ok (.iload 4, 2) := by decide +kernel
theorem dX6_actOnTwo_45 : decode cX6_actOnTwo 45 = .ok (.iload_n 3, 1) := by decide +kernel
theorem dX6_actOnTwo_46 : decode cX6_actOnTwo 46 = .ok (.irem, 1) := by decide +kernel
theorem dX6_actOnTwo_47 : decode cX6_actOnTwo 47 = .ok (.invokevirtual 138, 3) := by decide +kernel
theorem dX6_actOnTwo_50 : decode cX6_actOnTwo 50 = .ok (.iconst 0, 1) := by decide +kernel
theorem dX6_actOnTwo_51 : decode cX6_actOnTwo 51 = .ok (.ireturn, 1) := by decide +kernel
theorem dX6_actOnTwo_52 : decode cX6_actOnTwo 52 = .ok (.aload_n 1, 1) := by decide +kernel
theorem dX6_actOnTwo_53 : decode cX6_actOnTwo 53 = .ok (.aload_n 0, 1) := by decide +kernel
theorem dX6_actOnTwo_54 : decode cX6_actOnTwo 54 = .ok (.iload_n 2, 1) := by decide +kernel
theorem dX6_actOnTwo_55 : decode cX6_actOnTwo 55 = .ok (.iload 4, 2) := by decide +kernel
theorem dX6_actOnTwo_57 : decode cX6_actOnTwo 57 = .ok (.iload_n 3, 1) := by decide +kernel
theorem dX6_actOnTwo_58 : decode cX6_actOnTwo 58 = .ok (.invokevirtual 187, 3) := by decide +kernel
theorem dX6_actOnTwo_61 : decode cX6_actOnTwo 61 = .ok (.invokevirtual 138, 3) := by decide +kernel
theorem dX6_actOnTwo_64 : decode cX6_actOnTwo 64 = .ok (.iconst 0, 1) := by decide +kernel
theorem dX6_actOnTwo_65 : decode cX6_actOnTwo 65 = .ok (.ireturn, 1) := by decide +kernel
abbrev wcX6_actOnTwo : List Cond := .code yX6_actOnTwo cX6_actOnTwo 5 (some .int) :: wsL_law
def jX6_actOnTwo_47 (s0 : Int32) (s1 : Nat) (g : hs_S) : Option (Int32 × hs_S) :=
  if hs_kd g s1 = 3 then
  hs_bv (fX3_push s1 s0 g) fun g11 =>
  some ((0 : Int32), g11)
  else none
def jX6_actOnTwo_23 (v1 : Nat) (v2 : Int32) (v3 : Int32) (v4 : Int32) (g : hs_S) : Option (Int32 × hs_S) :=
  if v3 = 0 then (
    some ((1 : Int32), g)
  ) else (
    if v2 = (108 : Int32) then (
      if ¬ v3 = 0 then
      jX6_actOnTwo_47 (v4 / v3) v1 g
      else none
    ) else (
      if ¬ v3 = 0 then
      jX6_actOnTwo_47 (v4 - v4 / v3 * v3) v1 g
      else none
    )
  )
def fX6_actOnTwo (v0 : Nat) (v1 : Nat) (v2 : Int32) (g : hs_S) : Option (Int32 × hs_S) :=
  if hs_kd g v1 = 3 then
  hs_bd (fX3_pop v1 g) fun r3 g2 =>
  if hs_kd g2 v1 = 3 then
  hs_bd (fX3_pop v1 g2) fun r7 g6 =>
  if v2 = (108 : Int32) then (
    jX6_actOnTwo_23 v1 v2 r3 r7 g6
  ) else (
    if v2 = (112 : Int32) then (
      jX6_actOnTwo_23 v1 v2 r3 r7 g6
    ) else (
      if hs_kd g6 v0 = 5 then
      hs_bd (fX6_joined v0 v2 r7 r3 g6) fun r17 g16 =>
      if hs_kd g16 v1 = 3 then
      hs_bv (fX3_push v1 r17 g16) fun g20 =>
      some ((0 : Int32), g20)
      else none else none
    )
  )
  else none else none
abbrev rmX6_actOnTwo : Room := { frames := 2, cells := 0, slots := 0, locals := 43 }
set_option maxHeartbeats 4000000 in
set_option maxRecDepth 100000 in
theorem wX6_actOnTwo_j47 {p : Program} {l : Launch} {e : Env} {s : State} {m : MethodId} {args : Array Value} {below : List Frame} {meth : Method} {c : Code} {B : Nat} {D : va_G} {E : Nat → ClassId} (hX : hs_cx cX6_actOnTwo (some .int) 5 RX6 wcX6_actOnTwo p s m args meth c D E) {o : Int32 × hs_S}  {s0 : Int32} {s1 : Nat}   {g : hs_S} {H : Heap} {locs : List Loc} {ls : Array Slot} (hf : jX6_actOnTwo_47 s0 s1 g = some o) (hP : hs_P B D E g H) (hS : hs_Sx B s.heap H locs) (hl : lv_has ls 5 []) : W p l e rmX6_actOnTwo s m args below meth c H locs 0 0 (MQ below (hs_Qi B D E o) args s 0 0 (hs_F B)) (F0 m 47 ls [.int s0, .ref (B + s1)]) := by
  obtain ⟨hx, hb, hr, hml, hown, hts, hlocks, hK⟩ := id hX
  unfold jX6_actOnTwo_47 at hf
  obtain ⟨h10, hf⟩ := hs_ck hf
  obtain ⟨g11, h13, hf⟩ := hs_bv_some hf
  refine hs_callv (va_runV (As := [.int s0]) (rest := []) ⟨hx, hb, hml, hown, hts⟩ (ctX3_push l B D E s1 s0 g _ h13) (cwV 1 hts (hs_gV (fun _ h => List.mem_cons_of_mem _ h) wq775 wq776 wq777 wq101 wq778) rfl rfl rfl (by decide +kernel) ⟨Nat.le_of_ble_eq_true rfl, Nat.le_of_ble_eq_true rfl⟩) (hs_preV (r := (RX3, TX3, 5)) hP hK h10 (by decide) rfl) rfl rfl hl.1 rfl (lv_room (Nat.le_of_ble_eq_true rfl)) dX6_actOnTwo_47 ⟨(Nat.le_of_ble_eq_true rfl), (Nat.le_of_ble_eq_true rfl)⟩) hS (fun H locs hP hS => ?_)
  refine lv_iconst (v := 0) hx hb dX6_actOnTwo_50 (by decide) ?_
  exact hs_iret hx hb hr hlocks rfl hK hP hS hf dX6_actOnTwo_51

set_option maxHeartbeats 4000000 in
set_option maxRecDepth 100000 in
theorem wX6_actOnTwo_j23 {p : Program} {l : Launch} {e : Env} {s : State} {m : MethodId} {args : Array Value} {below : List Frame} {meth : Method} {c : Code} {B : Nat} {D : va_G} {E : Nat → ClassId} (hX : hs_cx cX6_actOnTwo (some .int) 5 RX6 wcX6_actOnTwo p s m args meth c D E) {o : Int32 × hs_S}  {v1 : Nat} {v2 : Int32} {v3 : Int32} {v4 : Int32}   {g : hs_S} {H : Heap} {locs : List Loc} {ls : Array Slot} (hf : jX6_actOnTwo_23 v1 v2 v3 v4 g = some o) (hP : hs_P B D E g H) (hS : hs_Sx B s.heap H locs) (hl : lv_has ls 5 [(1, .ref (B + v1)), (2, .int v2), (3, .int v3), (4, .int v4)]) : W p l e rmX6_actOnTwo s m args below meth c H locs 0 0 (MQ below (hs_Qi B D E o) args s 0 0 (hs_F B)) (F0 m 23 ls []) := by
  obtain ⟨hx, hb, hr, hml, hown, hts, hlocks, hK⟩ := id hX
  unfold jX6_actOnTwo_23 at hf
  refine lv_iload_n hx hb dX6_actOnTwo_23 rfl (lv_at hl 2 rfl) ?_
  refine lv_if_ne (tgt := 29) hx hb dX6_actOnTwo_24 (by decide) (fun hc => ?_) (fun hc => ?_)
  · replace hf := hs_f hf hc
    refine lv_aload_n hx hb dX6_actOnTwo_29 rfl (lv_at hl 0 rfl) ?_
    refine lv_iload_n hx hb dX6_actOnTwo_30 rfl (lv_at hl 1 rfl) ?_
    refine lv_bipush (v := 108) hx hb dX6_actOnTwo_31 (by decide) ?_
    refine lv_icmp_ne (tgt := 43) hx hb dX6_actOnTwo_33 (by decide) (fun hc => ?_) (fun hc => ?_)
    · replace hf := hs_f hf hc
      refine lv_iload hx hb dX6_actOnTwo_43 (lv_at hl 3 rfl) ?_
      refine lv_iload_n hx hb dX6_actOnTwo_45 rfl (lv_at hl 2 rfl) ?_
      obtain ⟨h9, hf⟩ := hs_ck hf
      refine lv_irem hx hb dX6_actOnTwo_46 h9 ?_
      exact wX6_actOnTwo_j47 hX hf hP hS (lv_sub hl [] rfl)
    · replace hf := hs_t hf hc
      refine lv_iload hx hb dX6_actOnTwo_36 (lv_at hl 3 rfl) ?_
      refine lv_iload_n hx hb dX6_actOnTwo_38 rfl (lv_at hl 2 rfl) ?_
      obtain ⟨h14, hf⟩ := hs_ck hf
      refine lv_idiv hx hb dX6_actOnTwo_39 h14 ?_
      refine lv_goto (tgt := 47) hx hb dX6_actOnTwo_40 (by decide) ?_
      exact wX6_actOnTwo_j47 hX hf hP hS (lv_sub hl [] rfl)
  · replace hf := hs_t hf hc
    refine lv_iconst (v := 1) hx hb dX6_actOnTwo_27 (by decide) ?_
    exact hs_iret hx hb hr hlocks rfl hK hP hS hf dX6_actOnTwo_28

set_option maxHeartbeats 4000000 in
set_option maxRecDepth 100000 in
theorem ctX6_actOnTwo (l : Launch) (B : Nat) (D : va_G) (E : Nat → ClassId) (v0 : Nat) (v1 : Nat) (v2 : Int32) (g : hs_S) (o : Int32 × hs_S) (hf : fX6_actOnTwo v0 v1 v2 g = some o) : Met l yX6_actOnTwo wcX6_actOnTwo rmX6_actOnTwo (hs_Pc B D E g [.ref (B + v0), .ref (B + v1), .int v2]) (hs_Qi B D E o) (0) (0) (hs_F B) := by
  refine Met.ofW (cc := cX6_actOnTwo) (maxL := 5) (ret := (some .int)) (by decide) rfl ?_
  intro p e s m args below meth c s₁ Bd hml hv
  obtain ⟨rfl, hP, hK⟩ := hv
  have hx := Bd.exec
  have hb := Bd.bytes
  have hr := Bd.returns
  have hts := atoms_spec (ws := wcX6_actOnTwo) Bd.pre
  have hown : s.vm.findClass RX6 = some m.cls := findClass_of_methodNamed Bd.named
  have hlocks := Bd.notSynchronized
  have hS : hs_Sx B s.heap s.heap [] := va_S.rf
  have hX : hs_cx cX6_actOnTwo (some .int) 5 RX6 wcX6_actOnTwo p s m (List.toArray [.ref (B + v0), .ref (B + v1), .int v2]) meth c D E := ⟨hx, hb, hr, hml, hown, hts, hlocks, hK⟩
  have hl := lv_entry ([.ref (B + v0), .ref (B + v1), .int v2]) (n := 5) (Nat.le_of_ble_eq_true rfl)
  rw [lg_entry_eq]
  generalize (lg_sl ([.ref (B + v0), .ref (B + v1), .int v2]) ++ List.replicate (5 - (lg_sl ([.ref (B + v0), .ref (B + v1), .int v2])).length) Slot.unset).toArray = ls at hl ⊢
  have hl : lv_has ls 5 [(0, .ref (B + v0)), (1, .ref (B + v1)), (2, .int v2)] := hl
  have hP : hs_P B D E g s.heap := hP
  unfold fX6_actOnTwo at hf
  refine lv_aload_n hx hb dX6_actOnTwo_0 rfl (lv_at hl 1 rfl) ?_
  obtain ⟨h1, hf⟩ := hs_ck hf
  obtain ⟨r3, g2, h4, hf⟩ := hs_bd_some hf
  refine hs_calli (va_runV (As := []) (rest := []) ⟨hx, hb, hml, hown, hts⟩ (ctX3_pop l B D E v1 g _ h4) (cwV 0 hts (hs_gV (fun _ h => List.mem_cons_of_mem _ h) wq767 wq768 wq769 wq101 wq770) rfl rfl rfl (by decide +kernel) ⟨Nat.le_of_ble_eq_true rfl, Nat.le_of_ble_eq_true rfl⟩) (hs_preV (r := (RX3, TX3, 5)) hP hK h1 (by decide) rfl) rfl rfl hl.1 rfl (lv_room (Nat.le_of_ble_eq_true rfl)) dX6_actOnTwo_1 ⟨(Nat.le_of_ble_eq_true rfl), (Nat.le_of_ble_eq_true rfl)⟩) hS (fun H locs hP hS => ?_)
  refine lv_istore_n (lv' := [(3, .int r3), (0, .ref (B + v0)), (1, .ref (B + v1)), (2, .int v2)]) hx hb dX6_actOnTwo_4 rfl hl (by decide) rfl (fun ls hl => ?_)
  refine lv_aload_n hx hb dX6_actOnTwo_5 rfl (lv_at hl 2 rfl) ?_
  obtain ⟨h5, hf⟩ := hs_ck hf
  obtain ⟨r7, g6, h8, hf⟩ := hs_bd_some hf
  refine hs_calli (va_runV (As := []) (rest := []) ⟨hx, hb, hml, hown, hts⟩ (ctX3_pop l B D E v1 g2 _ h8) (cwV 0 hts (hs_gV (fun _ h => List.mem_cons_of_mem _ h) wq767 wq768 wq769 wq101 wq770) rfl rfl rfl (by decide +kernel) ⟨Nat.le_of_ble_eq_true rfl, Nat.le_of_ble_eq_true rfl⟩) (hs_preV (r := (RX3, TX3, 5)) hP hK h5 (by decide) rfl) rfl rfl hl.1 rfl (lv_room (Nat.le_of_ble_eq_true rfl)) dX6_actOnTwo_6 ⟨(Nat.le_of_ble_eq_true rfl), (Nat.le_of_ble_eq_true rfl)⟩) hS (fun H locs hP hS => ?_)
  refine lv_istore (lv' := [(4, .int r7), (3, .int r3), (0, .ref (B + v0)), (1, .ref (B + v1)), (2, .int v2)]) hx hb dX6_actOnTwo_9 hl (by decide) rfl (fun ls hl => ?_)
  refine lv_iload_n hx hb dX6_actOnTwo_11 rfl (lv_at hl 4 rfl) ?_
  refine lv_bipush (v := 108) hx hb dX6_actOnTwo_12 (by decide) ?_
  refine lv_icmp_eq (tgt := 23) hx hb dX6_actOnTwo_14 (by decide) (fun hc => ?_) (fun hc => ?_)
  · replace hf := hs_t hf hc
    exact wX6_actOnTwo_j23 hX hf hP hS (lv_sub hl [3, 4, 1, 0] rfl)
  · replace hf := hs_f hf hc
    refine lv_iload_n hx hb dX6_actOnTwo_17 rfl (lv_at hl 4 rfl) ?_
    refine lv_bipush (v := 112) hx hb dX6_actOnTwo_18 (by decide) ?_
    refine lv_icmp_ne (tgt := 52) hx hb dX6_actOnTwo_20 (by decide) (fun hc => ?_) (fun hc => ?_)
    · replace hf := hs_f hf hc
      refine lv_aload_n hx hb dX6_actOnTwo_52 rfl (lv_at hl 3 rfl) ?_
      refine lv_aload_n hx hb dX6_actOnTwo_53 rfl (lv_at hl 2 rfl) ?_
      refine lv_iload_n hx hb dX6_actOnTwo_54 rfl (lv_at hl 4 rfl) ?_
      refine lv_iload hx hb dX6_actOnTwo_55 (lv_at hl 0 rfl) ?_
      refine lv_iload_n hx hb dX6_actOnTwo_57 rfl (lv_at hl 1 rfl) ?_
      obtain ⟨h15, hf⟩ := hs_ck hf
      obtain ⟨r17, g16, h18, hf⟩ := hs_bd_some hf
      refine hs_calli (va_runV (As := [.int v2, .int r7, .int r3]) (rest := [.ref (B + v1)]) ⟨hx, hb, hml, hown, hts⟩ (ctX6_joined l B D E v0 v2 r7 r3 g6 _ h18) (cwV 3 hts (hs_gV (fun _ h => List.mem_cons_of_mem _ h) wq832 wq833 wq834 wq34 wq835) rfl rfl rfl (by decide +kernel) ⟨Nat.le_of_ble_eq_true rfl, Nat.le_of_ble_eq_true rfl⟩) (hs_preV (r := (RX6, TX6, 8)) hP hK h15 (by decide) rfl) rfl rfl hl.1 rfl (lv_room (Nat.le_of_ble_eq_true rfl)) dX6_actOnTwo_58 ⟨(Nat.le_of_ble_eq_true rfl), (Nat.le_of_ble_eq_true rfl)⟩) hS (fun H locs hP hS => ?_)
      obtain ⟨h19, hf⟩ := hs_ck hf
      obtain ⟨g20, h22, hf⟩ := hs_bv_some hf
      refine hs_callv (va_runV (As := [.int r17]) (rest := []) ⟨hx, hb, hml, hown, hts⟩ (ctX3_push l B D E v1 r17 g16 _ h22) (cwV 1 hts (hs_gV (fun _ h => List.mem_cons_of_mem _ h) wq775 wq776 wq777 wq101 wq778) rfl rfl rfl (by decide +kernel) ⟨Nat.le_of_ble_eq_true rfl, Nat.le_of_ble_eq_true rfl⟩) (hs_preV (r := (RX3, TX3, 5)) hP hK h19 (by decide) rfl) rfl rfl hl.1 rfl (lv_room (Nat.le_of_ble_eq_true rfl)) dX6_actOnTwo_61 ⟨(Nat.le_of_ble_eq_true rfl), (Nat.le_of_ble_eq_true rfl)⟩) hS (fun H locs hP hS => ?_)
      refine lv_iconst (v := 0) hx hb dX6_actOnTwo_64 (by decide) ?_
      exact hs_iret hx hb hr hlocks rfl hK hP hS hf dX6_actOnTwo_65
    · replace hf := hs_t hf hc
      exact wX6_actOnTwo_j23 hX hf hP hS (lv_sub hl [3, 4, 1, 0] rfl)

