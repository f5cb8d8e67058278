theorem dX11_feed_0 : decode cX11_feed 0 = .ok (.iload_n 3, 1) := by decide +kernel
theorem dX11_feed_1 : decode cX11_feed 1 = .ok (.iconst 1, 1) := by decide +kernel
theorem dX11_feed_2 : decode cX11_feed 2 = .ok (.if_icmp .lt 9, 3) := by decide +kernel
theorem dX11_feed_5 : decode cX11_feed 5 = .ok (.iload_n 3, 1) := by decide +kernel
theorem dX11_feed_6 : decode cX11_feed 6 = .ok (.bipush 8, 2) := by decide +kernel
theorem dX11_feed_8 : decode cX11_feed 8 = .ok (.if_icmp .le 6, 3) := by decide +kernel
theorem dX11_feed_11 : decode cX11_feed 11 = .ok (.bipush (-3), 2) := by decide +kernel
theorem dX11_feed_13 : decode cX11_feed 13 = .ok (.ireturn, 1) := by decide +kernel
theorem dX11_feed_14 : decode cX11_feed 14 = .ok (.aload_n 0, 1) := by decide +kernel
theorem dX11_feed_15 : decode cX11_feed 15 = .ok (.getfield 14, 3) := by decide +kernel
theorem dX11_feed_18 : decode cX11_feed 18 = .ok (.getfield 57, 3) := by decide +kernel
theorem dX11_feed_21 : decode cX11_feed 21 = .ok (.iload_n 3, 1) := by decide +kernel
theorem dX11_feed_22 : decode cX11_feed 22 = .ok (.iadd, 1) := by decide +kernel
theorem dX11_feed_23 : decode cX11_feed 23 = .ok (.sipush 6000, 3) := by decide +kernel
theorem dX11_feed_26 : decode cX11_feed 26 = .ok (.if_icmp .le 6, 3) := by decide +kernel
theorem dX11_feed_29 : decode cX11_feed 29 = .ok (.bipush (-4), 2) := by decide +kernel
theorem dX11_feed_31 : decode cX11_feed 31 = .ok (.ireturn, 1) := by decide +kernel
theorem dX11_feed_32 : decode cX11_feed 32 = .ok (.iload_n 3, 1) := by decide +kernel
theorem dX11_feed_33 : decode cX11_feed 33 = .ok (.iconst 1, 1) := by decide +kernel
theorem dX11_feed_34 : decode cX11_feed 34 = .ok (.isub, 1) := by decide +kernel
theorem dX11_feed_35 : decode cX11_feed 35 = .ok (.istore 4, 2) := by decide +kernel
theorem dX11_feed_37 : decode cX11_feed 37 = .ok (.iload 4, 2) := by decide +kernel
theorem dX11_feed_39 : decode cX11_feed 39 = .ok (.ifCond .lt 24, 3) := by decide +kernel
theorem dX11_feed_42 : decode cX11_feed 42 = .ok (.aload_n 0, 1) := by decide +kernel
theorem dX11_feed_43 : decode cX11_feed 43 = .ok (.getfield 14, 3) := by decide +kernel
theorem dX11_feed_46 : decode cX11_feed 46 = .ok (.lload_n 1, 1) := by decide +kernel
theorem dX11_feed_47 : decode cX11_feed 47 = .ok (.bipush 8, 2) := by decide +kernel
theorem dX11_feed_49 : decode cX11_feed 49 = .ok (.iload 4, 2) := by decide +kernel
theorem dX11_feed_51 : decode cX11_feed 51 = .ok (.imul, 1) := by decide +kernel
theorem dX11_feed_52 : decode cX11_feed 52 = .ok (.lshr, 1) := by decide +kernel
theorem dX11_feed_53 : decode cX11_feed 53 = .ok (.l2i, 1) := by decide +kernel
theorem dX11_feed_54 : decode cX11_feed 54 = .ok (.invokevirtual 61, 3) := by decide +kernel
theorem dX11_feed_57 : decode cX11_feed 57 = .ok (.iinc 4 (-1), 3) := by decide +kernel
theorem dX11_feed_60 : decode cX11_feed 60 = .ok (.goto (-23), 3) := by decide +kernel
theorem dX11_feed_63 : decode cX11_feed 63 = .ok (.aload_n 0, 1) := by decide +kernel
theorem dX11_feed_64 : decode cX11_feed 64 = .ok (.getfield 14, 3) := by decide +kernel
theorem dX11_feed_67 : decode cX11_feed 67 = .ok (.getfield 57, 3) := by decide +kernel
theorem dX11_feed_70 : decode cX11_feed 70 = .ok (.ireturn, 1) := by decide +kernel
abbrev wcX11_feed : List Cond := .code yX11_feed cX11_feed 5 (some .int) :: wsL_law
def lX11_feed_37 : Nat → Nat → Int64 → Int32 → hs_S → Option (hs_S)
  | 0, _, _, _, _ => none
  | n + 1, v0, v1, v4, g =>
    if v4 < 0 then (
      some g
    ) else (
      if hs_kd g v0 = 9 then
      if ¬ (hs_R g v0 0) = 0 then
      if hs_kd g ((hs_R g v0 0) - 1) = 0 then
      hs_bv (fX0_append ((hs_R g v0 0) - 1) ((v1 >>> (((8 : Int32) * v4).toInt64 &&& 63)).toInt32) g) fun g7 =>
      lX11_feed_37 n v0 v1 (v4 + (-1 : Int32)) g7
      else none else none else none
    )
theorem lX11_feed_37_s (n : Nat) (v0 : Nat) (v1 : Int64) (v4 : Int32) (g : hs_S) : lX11_feed_37 (n + 1) v0 v1 v4 g =
    if v4 < 0 then (
      some g
    ) else (
      if hs_kd g v0 = 9 then
      if ¬ (hs_R g v0 0) = 0 then
      if hs_kd g ((hs_R g v0 0) - 1) = 0 then
      hs_bv (fX0_append ((hs_R g v0 0) - 1) ((v1 >>> (((8 : Int32) * v4).toInt64 &&& 63)).toInt32) g) fun g7 =>
      lX11_feed_37 n v0 v1 (v4 + (-1 : Int32)) g7
      else none else none else none
    ) := rfl
def fX11_feed (v0 : Nat) (v1 : Int64) (v3 : Int32) (g : hs_S) : Option (Int32 × hs_S) :=
  if v3 < (1 : Int32) then (
    some ((-3 : Int32), g)
  ) else (
    if v3 ≤ (8 : Int32) then (
      if hs_kd g v0 = 9 then
      if ¬ (hs_R g v0 0) = 0 then
      if hs_kd g ((hs_R g v0 0) - 1) = 0 then
      if ((hs_I g ((hs_R g v0 0) - 1) 3) + v3) ≤ (6000 : Int32) then (
        hs_bv (lX11_feed_37 hs_N v0 v1 (v3 - (1 : Int32)) g) fun g11 =>
        if hs_kd g11 v0 = 9 then
        if ¬ (hs_R g11 v0 0) = 0 then
        if hs_kd g11 ((hs_R g11 v0 0) - 1) = 0 then
        some ((hs_I g11 ((hs_R g11 v0 0) - 1) 3), g11)
        else none else none else none
      ) else (
        some ((-4 : Int32), g)
      )
      else none else none else none
    ) else (
      some ((-3 : Int32), g)
    )
  )
abbrev rmX11_feed : Room := { frames := 2, cells := 0, slots := 0, locals := 43 }
set_option maxHeartbeats 4000000 in
set_option maxRecDepth 100000 in
theorem wX11_feed_37 {p : Program} {l : Launch} {e : Env} {s : State} {m : MethodId} {args : Array Value} {below : List Frame} {meth : Method} {c : Code} {B : Nat} {D : va_G} {E : Nat → ClassId} (hX : hs_cx cX11_feed (some .int) 5 RX11 wcX11_feed p s m args meth c D E) {Q : State → Prop} {o : hs_S} {v0 : Nat} {v1 : Int64} (hex0 : ∀ (H : Heap) (locs : List Loc) (ls : Array Slot), hs_P B D E (o) H → hs_Sx B s.heap H locs → lv_has ls 5 [(0, .ref (B + v0))] → W p l e rmX11_feed s m args below meth c H locs 0 0 Q (F0 m 63 ls [])) : ∀ (n : Nat) (v4 : Int32) (g : hs_S), lX11_feed_37 n v0 v1 v4 g = some o → ∀ (H : Heap) (locs : List Loc) (ls : Array Slot), hs_P B D E g H → hs_Sx B s.heap H locs → lv_has ls 5 [(0, .ref (B + v0)), (1, .long v1), (4, .int v4)] → W p l e rmX11_feed s m args below meth c H locs 0 0 Q (F0 m 37 ls []) := by
  obtain ⟨hx, hb, hr, hml, hown, hts, hlocks, hK⟩ := id hX
  intro n
  induction n with
  | zero =>
    intro v4 g hf
    cases hf
  | succ n ih =>
    intro v4 g hf H locs ls hP hS hl
    replace hf := (lX11_feed_37_s n v0 v1 v4 g).symm.trans hf
    refine lv_iload hx hb dX11_feed_37 (lv_at hl 2 rfl) ?_
    refine lv_if_lt (tgt := 63) hx hb dX11_feed_39 (by decide) (fun hc => ?_) (fun hc => ?_)
    · replace hf := hs_t hf hc
      obtain rfl := Option.some.inj hf
      exact hex0 _ _ _ hP hS (lv_sub hl [0] rfl)
    · replace hf := hs_f hf hc
      refine lv_aload_n hx hb dX11_feed_42 rfl (lv_at hl 0 rfl) ?_
      obtain ⟨h4, hf⟩ := hs_ck hf
      obtain ⟨h5, hf⟩ := hs_ck hf
      refine hs_getr (C := RX11) (T := TX11) (N := 8) hx hb hts (fun w h => List.mem_cons_of_mem _ (inlX11 w h)) hown hK.1 hP h4 (by decide) rfl 0 (by decide) (hts _ (List.mem_cons_of_mem _ wq16)) (fun _ h => h) rfl h5 dX11_feed_43 ?_
      refine lv_lload_n hx hb dX11_feed_46 rfl (lv_at hl 1 rfl) ?_
      refine lv_bipush (v := 8) hx hb dX11_feed_47 (by decide) ?_
      refine lv_iload hx hb dX11_feed_49 (lv_at hl 2 rfl) ?_
      refine lv_imul hx hb dX11_feed_51 ?_
      refine lv_lshr hx hb dX11_feed_52 rfl ?_
      refine lv_l2i hx hb dX11_feed_53 rfl ?_
      obtain ⟨h6, hf⟩ := hs_ck hf
      obtain ⟨g7, h9, hf⟩ := hs_bv_some hf
      refine hs_callv (va_runV (As := [.int ((v1 >>> (((8 : Int32) * v4).toInt64 &&& 63)).toInt32)]) (rest := []) ⟨hx, hb, hml, hown, hts⟩ (ctX0_append l B D E ((hs_R g v0 0) - 1) ((v1 >>> (((8 : Int32) * v4).toInt64 &&& 63)).toInt32) g _ h9) (cwV 1 hts (hs_gV (fun _ h => List.mem_cons_of_mem _ h) wq166 wq167 wq168 wq15 wq169) rfl rfl rfl (by decide +kernel) ⟨Nat.le_of_ble_eq_true rfl, Nat.le_of_ble_eq_true rfl⟩) (hs_preV (r := (RX0, TX0, 5)) hP hK h6 (by decide) rfl) rfl rfl hl.1 rfl (lv_room (Nat.le_of_ble_eq_true rfl)) dX11_feed_54 ⟨(Nat.le_of_ble_eq_true rfl), (Nat.le_of_ble_eq_true rfl)⟩) hS (fun H locs hP hS => ?_)
      refine lv_iinc (v := (v4 + (-1 : Int32))) (lv' := [(4, .int (v4 + (-1 : Int32))), (0, .ref (B + v0)), (1, .long v1)]) hx hb dX11_feed_57 hl (k := 2) rfl (by rfl) (by decide) rfl (fun ls hl => ?_)
      refine lv_goto (tgt := 37) hx hb dX11_feed_60 (by decide) ?_
      exact ih _ _ hf _ _ _ hP hS (lv_sub hl [1, 2, 0] rfl)

set_option maxHeartbeats 4000000 in
set_option maxRecDepth 100000 in
theorem ctX11_feed (l : Launch) (B : Nat) (D : va_G) (E : Nat → ClassId) (v0 : Nat) (v1 : Int64) (v3 : Int32) (g : hs_S) (o : Int32 × hs_S) (hf : fX11_feed v0 v1 v3 g = some o) : Met l yX11_feed wcX11_feed rmX11_feed (hs_Pc B D E g [.ref (B + v0), .long v1, .int v3]) (hs_Qi B D E o) (0) (0) (hs_F B) := by
  refine Met.ofW (cc := cX11_feed) (maxL := 5) (ret := (some .int)) (by decide) rfl ?_
  intro p e s m args below meth c s₁ Bd hml hv
  obtain ⟨rfl, hP, hK⟩ := hv
  have hx := Bd.exec
  have hb := Bd.bytes
  have hr := Bd.returns
  have hts := atoms_spec (ws := wcX11_feed) Bd.pre
  have hown : s.vm.findClass RX11 = some m.cls := findClass_of_methodNamed Bd.named
  have hlocks := Bd.notSynchronized
  have hS : hs_Sx B s.heap s.heap [] := va_S.rf
  have hX : hs_cx cX11_feed (some .int) 5 RX11 wcX11_feed p s m (List.toArray [.ref (B + v0), .long v1, .int v3]) meth c D E := ⟨hx, hb, hr, hml, hown, hts, hlocks, hK⟩
  have hl := lv_entry ([.ref (B + v0), .long v1, .int v3]) (n := 5) (Nat.le_of_ble_eq_true rfl)
  rw [lg_entry_eq]
  generalize (lg_sl ([.ref (B + v0), .long v1, .int v3]) ++ List.replicate (5 - (lg_sl ([.ref (B + v0), .long v1, .int v3])).length) Slot.unset).toArray = ls at hl ⊢
  have hl : lv_has ls 5 [(0, .ref (B + v0)), (1, .long v1), (3, .int v3)] := hl
  have hP : hs_P B D E g s.heap := hP
  unfold fX11_feed at hf
  refine lv_iload_n hx hb dX11_feed_0 rfl (lv_at hl 2 rfl) ?_
  refine lv_iconst (v := 1) hx hb dX11_feed_1 (by decide) ?_
  refine lv_icmp_lt (tgt := 11) hx hb dX11_feed_2 (by decide) (fun hc => ?_) (fun hc => ?_)
  · replace hf := hs_t hf hc
    refine lv_bipush (v := -3) hx hb dX11_feed_11 (by decide) ?_
    exact hs_iret hx hb hr hlocks rfl hK hP hS hf dX11_feed_13
  · replace hf := hs_f hf hc
    refine lv_iload_n hx hb dX11_feed_5 rfl (lv_at hl 2 rfl) ?_
    refine lv_bipush (v := 8) hx hb dX11_feed_6 (by decide) ?_
    refine lv_icmp_le (tgt := 14) hx hb dX11_feed_8 (by decide) (fun hc => ?_) (fun hc => ?_)
    · replace hf := hs_t hf hc
      refine lv_aload_n hx hb dX11_feed_14 rfl (lv_at hl 0 rfl) ?_
      obtain ⟨h1, hf⟩ := hs_ck hf
      obtain ⟨h2, hf⟩ := hs_ck hf
      refine hs_getr (C := RX11) (T := TX11) (N := 8) hx hb hts (fun w h => List.mem_cons_of_mem _ (inlX11 w h)) hown hK.1 hP h1 (by decide) rfl 0 (by decide) (hts _ (List.mem_cons_of_mem _ wq16)) (fun _ h => h) rfl h2 dX11_feed_15 ?_
      obtain ⟨h3, hf⟩ := hs_ck hf
      refine hs_geti (C := RX0) (T := TX0) (N := 5) hx hb hts (fun w h => List.mem_cons_of_mem _ (inlX0 w h)) hown hK.1 hP h3 (by decide) rfl 3 (by decide) (hts _ (List.mem_cons_of_mem _ wq165)) (fun _ h => h) rfl dX11_feed_18 ?_
      refine lv_iload_n hx hb dX11_feed_21 rfl (lv_at hl 2 rfl) ?_
      refine lv_iadd hx hb dX11_feed_22 ?_
      refine lv_sipush (v := 6000) hx hb dX11_feed_23 (by decide) ?_
      refine lv_icmp_le (tgt := 32) hx hb dX11_feed_26 (by decide) (fun hc => ?_) (fun hc => ?_)
      · replace hf := hs_t hf hc
        refine lv_iload_n hx hb dX11_feed_32 rfl (lv_at hl 2 rfl) ?_
        refine lv_iconst (v := 1) hx hb dX11_feed_33 (by decide) ?_
        refine lv_isub hx hb dX11_feed_34 ?_
        refine lv_istore (lv' := [(4, .int (v3 - (1 : Int32))), (0, .ref (B + v0)), (1, .long v1), (3, .int v3)]) hx hb dX11_feed_35 hl (by decide) rfl (fun ls hl => ?_)
        obtain ⟨g11, h12, hf⟩ := hs_bv_some hf
        refine wX11_feed_37 hX (fun H locs ls hP hS hl => ?_) hs_N _ _ h12 _ _ _ hP hS (lv_sub hl [1, 2, 0] rfl)
        refine lv_aload_n hx hb dX11_feed_63 rfl (lv_at hl 0 rfl) ?_
        obtain ⟨h13, hf⟩ := hs_ck hf
        obtain ⟨h14, hf⟩ := hs_ck hf
        refine hs_getr (C := RX11) (T := TX11) (N := 8) hx hb hts (fun w h => List.mem_cons_of_mem _ (inlX11 w h)) hown hK.1 hP h13 (by decide) rfl 0 (by decide) (hts _ (List.mem_cons_of_mem _ wq16)) (fun _ h => h) rfl h14 dX11_feed_64 ?_
        obtain ⟨h15, hf⟩ := hs_ck hf
        refine hs_geti (C := RX0) (T := TX0) (N := 5) hx hb hts (fun w h => List.mem_cons_of_mem _ (inlX0 w h)) hown hK.1 hP h15 (by decide) rfl 3 (by decide) (hts _ (List.mem_cons_of_mem _ wq165)) (fun _ h => h) rfl dX11_feed_67 ?_
        exact hs_iret hx hb hr hlocks rfl hK hP hS hf dX11_feed_70
      · replace hf := hs_f hf hc
        refine lv_bipush (v := -4) hx hb dX11_feed_29 (by decide) ?_
        exact hs_iret hx hb hr hlocks rfl hK hP hS hf dX11_feed_31
    · replace hf := hs_f hf hc
      refine lv_bipush (v := -3) hx hb dX11_feed_11 (by decide) ?_
      exact hs_iret hx hb hr hlocks rfl hK hP hS hf dX11_feed_13

theorem dX11_load_0 : decode cX11_load 0 = .ok (.aload_n 0, 1) := by decide +kernel
theorem dX11_load_1 : decode cX11_load 1 = .ok (.getfield 37, 3) := by decide +kernel
theorem dX11_load_4 : decode cX11_load 4 = .ok (.aload_n 0, 1) := by decide +kernel
theorem dX11_load_5 : decode cX11_load 5 = .ok (.getfield 14, 3) := by decide +kernel
theorem dX11_load_8 : decode cX11_load 8 = .ok (.invokevirtual 64, 3) := by decide +kernel
theorem dX11_load_11 : decode cX11_load 11 = .ok (.istore_n 1, 1) := by decide +kernel
theorem dX11_load_12 : decode cX11_load 12 = .ok (.iload_n 1, 1) := by decide +kernel
theorem dX11_load_13 : decode cX11_load 13 = .ok (.iconst (-1), 1) := by decide +kernel
theorem dX11_load_14 : decode cX11_load 14 = .ok (.if_icmp .ne 28, 3) := by decide +kernel
theorem dX11_load_17 : decode cX11_load 17 = .ok (.aload_n 0, 1) := by decide +kernel
theorem dX11_load_18 : decode cX11_load 18 = .ok (.getfield 18, 3) := by decide +kernel
theorem dX11_load_21 : decode cX11_load 21 = .ok (.astore_n 2, 1) := by decide +kernel
theorem dX11_load_22 : decode cX11_load 22 = .ok (.aload_n 0, 1) := by decide +kernel
theorem dX11_load_23 : decode cX11_load 23 = .ok (.aload_n 0, 1) := by decide +kernel
theorem dX11_load_24 : decode cX11_load 24 = .ok (.getfield 14, 3) := by decide +kernel
theorem dX11_load_27 : decode cX11_load 27 = .ok (.putfield 18, 3) := by decide +kernel
theorem dX11_load_30 : decode cX11_load 30 = .ok (.aload_n 0, 1) := by decide +kernel
theorem dX11_load_31 : decode cX11_load 31 = .ok (.aload_n 2, 1) := by decide +kernel
theorem dX11_load_32 : decode cX11_load 32 = .ok (.putfield 14, 3) := by decide +kernel
theorem dX11_load_35 : decode cX11_load 35 = .ok (.aload_n 0, 1) := by decide +kernel
theorem dX11_load_36 : decode cX11_load 36 = .ok (.getfield 24, 3) := by decide +kernel
theorem dX11_load_39 : decode cX11_load 39 = .ok (.invokevirtual 68, 3) := by decide +kernel
theorem dX11_load_42 : decode cX11_load 42 = .ok (.aload_n 0, 1) := by decide +kernel
theorem dX11_load_43 : decode cX11_load 43 = .ok (.getfield 14, 3) := by decide +kernel
theorem dX11_load_46 : decode cX11_load 46 = .ok (.invokevirtual 68, 3) := by decide +kernel
theorem dX11_load_49 : decode cX11_load 49 = .ok (.iload_n 1, 1) := by decide +kernel
theorem dX11_load_50 : decode cX11_load 50 = .ok (.iconst (-1), 1) := by decide +kernel
theorem dX11_load_51 : decode cX11_load 51 = .ok (.if_icmp .ne 13, 3) := by decide +kernel
theorem dX11_load_54 : decode cX11_load 54 = .ok (.aload_n 0, 1) := by decide +kernel
theorem dX11_load_55 : decode cX11_load 55 = .ok (.getfield 18, 3) := by decide +kernel
theorem dX11_load_58 : decode cX11_load 58 = .ok (.getfield 71, 3) := by decide +kernel
theorem dX11_load_61 : decode cX11_load 61 = .ok (.goto 7, 3) := by decide +kernel
theorem dX11_load_64 : decode cX11_load 64 = .ok (.bipush (-10), 2) := by decide +kernel
theorem dX11_load_66 : decode cX11_load 66 = .ok (.iload_n 1, 1) := by decide +kernel
theorem dX11_load_67 : decode cX11_load 67 = .ok (.isub, 1) := by decide +kernel
theorem dX11_load_68 : decode cX11_load 68 = .ok (.ireturn, 1) := by decide +kernel
abbrev wcX11_load : List Cond := .code yX11_load cX11_load 3 (some .int) :: wsL_law
def jX11_load_42 (v0 : Nat) (v1 : Int32) (g : hs_S) : Option (Int32 × hs_S) :=
  if hs_kd g v0 = 9 then
  if ¬ (hs_R g v0 0) = 0 then
  if hs_kd g ((hs_R g v0 0) - 1) = 0 then
  hs_bv (fX0_empty ((hs_R g v0 0) - 1) g) fun g11 =>
  if v1 = (-1 : Int32) then (
    if hs_kd g11 v0 = 9 then
    if ¬ (hs_R g11 v0 1) = 0 then
    if hs_kd g11 ((hs_R g11 v0 1) - 1) = 0 then
    some ((hs_I g11 ((hs_R g11 v0 1) - 1) 4), g11)
    else none else none else none
  ) else (
    some (((-10 : Int32) - v1), g11)
  )
  else none else none else none
def fX11_load (v0 : Nat) (g : hs_S) : Option (Int32 × hs_S) :=
  if hs_kd g v0 = 9 then
  if ¬ (hs_R g v0 5) = 0 then
  if ¬ (hs_R g v0 0) = 0 then
  if hs_kd g ((hs_R g v0 5) - 1) = 2 then
  hs_bd (fX2_firstWrong ((hs_R g v0 5) - 1) ((hs_R g v0 0) - 1) g) fun r6 g5 =>
  if r6 = (-1 : Int32) then (
    if hs_kd g5 v0 = 9 then
    if ¬ (hs_R g5 v0 1) = 0 then
    if ¬ (hs_R g5 v0 0) = 0 then
    if ¬ (hs_R (hs_wR (hs_wR g5 v0 1 ((hs_R g5 v0 0) - 1)) v0 0 ((hs_R g5 v0 1) - 1)) v0 3) = 0 then
    if hs_kd (hs_wR (hs_wR g5 v0 1 ((hs_R g5 v0 0) - 1)) v0 0 ((hs_R g5 v0 1) - 1)) ((hs_R (hs_wR (hs_wR g5 v0 1 ((hs_R g5 v0 0) - 1)) v0 0 ((hs_R g5 v0 1) - 1)) v0 3) - 1) = 0 then
    hs_bv (fX0_empty ((hs_R (hs_wR (hs_wR g5 v0 1 ((hs_R g5 v0 0) - 1)) v0 0 ((hs_R g5 v0 1) - 1)) v0 3) - 1) (hs_wR (hs_wR g5 v0 1 ((hs_R g5 v0 0) - 1)) v0 0 ((hs_R g5 v0 1) - 1))) fun g22 =>
    jX11_load_42 v0 r6 g22
    else none else none else none else none else none
  ) else (
    jX11_load_42 v0 r6 g5
  )
  else none else none else none else none
abbrev rmX11_load : Room := { frames := 7, cells := 0, slots := 0, locals := 167 }
set_option maxHeartbeats 4000000 in
set_option maxRecDepth 100000 in
theorem wX11_load_j42 {p : Program} {l : Launch} {e : Env} {s : State} {m : MethodId} {args : Array Value} {below : List Frame} {meth : Method} {c : Code} {B : Nat} {D : va_G} {E : Nat → ClassId} (hX : hs_cx cX11_load (some .int) 3 RX11 wcX11_load p s m args meth c D E) {o : Int32 × hs_S}  {v0 : Nat} {v1 : Int32}   {g : hs_S} {H : Heap} {locs : List Loc} {ls : Array Slot} (hf : jX11_load_42 v0 v1 g = some o) (hP : hs_P B D E g H) (hS : hs_Sx B s.heap H locs) (hl : lv_has ls 3 [(0, .ref (B + v0)), (1, .int v1)]) : W p l e rmX11_load s m args below meth c H locs 0 0 (MQ below (hs_Qi B D E o) args s 0 0 (hs_F B)) (F0 m 42 ls []) := by
  obtain ⟨hx, hb, hr, hml, hown, hts, hlocks, hK⟩ := id hX
  unfold jX11_load_42 at hf
  refine lv_aload_n hx hb dX11_load_42 rfl (lv_at hl 0 rfl) ?_
  obtain ⟨h8, hf⟩ := hs_ck hf
  obtain ⟨h9, hf⟩ := hs_ck hf
  refine hs_getr (C := RX11) (T := TX11) (N := 8) hx hb hts (fun w h => List.mem_cons_of_mem _ (inlX11 w h)) hown hK.1 hP h8 (by decide) rfl 0 (by decide) (hts _ (List.mem_cons_of_mem _ wq16)) (fun _ h => h) rfl h9 dX11_load_43 ?_
  obtain ⟨h10, hf⟩ := hs_ck hf
  obtain ⟨g11, h13, hf⟩ := hs_bv_some hf
  refine hs_callv (va_runV (As := []) (rest := []) ⟨hx, hb, hml, hown, hts⟩ (ctX0_empty l B D E ((hs_R g v0 0) - 1) g _ h13) (cwV 0 hts (hs_gV (fun _ h => List.mem_cons_of_mem _ h) wq384 wq385 wq386 wq15 wq387) rfl rfl rfl (by decide +kernel) ⟨Nat.le_of_ble_eq_true rfl, Nat.le_of_ble_eq_true rfl⟩) (hs_preV (r := (RX0, TX0, 5)) hP hK h10 (by decide) rfl) rfl rfl hl.1 rfl (lv_room (Nat.le_of_ble_eq_true rfl)) dX11_load_46 ⟨(Nat.le_of_ble_eq_true rfl), (Nat.le_of_ble_eq_true rfl)⟩) hS (fun H locs hP hS => ?_)
  refine lv_iload_n hx hb dX11_load_49 rfl (lv_at hl 1 rfl) ?_
  refine lv_iconst (v := -1) hx hb dX11_load_50 (by decide) ?_
  refine lv_icmp_ne (tgt := 64) hx hb dX11_load_51 (by decide) (fun hc => ?_) (fun hc => ?_)
  · replace hf := hs_f hf hc
    refine lv_bipush (v := -10) hx hb dX11_load_64 (by decide) ?_
    refine lv_iload_n hx hb dX11_load_66 rfl (lv_at hl 1 rfl) ?_
    refine lv_isub hx hb dX11_load_67 ?_
    exact hs_iret hx hb hr hlocks rfl hK hP hS hf dX11_load_68
  · replace hf := hs_t hf hc
    refine lv_aload_n hx hb dX11_load_54 rfl (lv_at hl 0 rfl) ?_
    obtain ⟨h14, hf⟩ := hs_ck hf
    obtain ⟨h15, hf⟩ := hs_ck hf
    refine hs_getr (C := RX11) (T := TX11) (N := 8) hx hb hts (fun w h => List.mem_cons_of_mem _ (inlX11 w h)) hown hK.1 hP h14 (by decide) rfl 1 (by decide) (hts _ (List.mem_cons_of_mem _ wq17)) (fun _ h => h) rfl h15 dX11_load_55 ?_
    obtain ⟨h16, hf⟩ := hs_ck hf
    refine hs_geti (C := RX0) (T := TX0) (N := 5) hx hb hts (fun w h => List.mem_cons_of_mem _ (inlX0 w h)) hown hK.1 hP h16 (by decide) rfl 4 (by decide) (hts _ (List.mem_cons_of_mem _ wq181)) (fun _ h => h) rfl dX11_load_58 ?_
    refine lv_goto (tgt := 68) hx hb dX11_load_61 (by decide) ?_
    exact hs_iret hx hb hr hlocks rfl hK hP hS hf dX11_load_68

set_option maxHeartbeats 4000000 in
set_option maxRecDepth 100000 in
theorem ctX11_load (l : Launch) (B : Nat) (D : va_G) (E : Nat → ClassId) (v0 : Nat) (g : hs_S) (o : Int32 × hs_S) (hf : fX11_load v0 g = some o) : Met l yX11_load wcX11_load rmX11_load (hs_Pc B D E g [.ref (B + v0)]) (hs_Qi B D E o) (0) (0) (hs_F B) := by
  refine Met.ofW (cc := cX11_load) (maxL := 3) (ret := (some .int)) (by decide) rfl ?_
  intro p e s m args below meth c s₁ Bd hml hv
  obtain ⟨rfl, hP, hK⟩ := hv
  have hx := Bd.exec
  have hb := Bd.bytes
  have hr := Bd.returns
  have hts := atoms_spec (ws := wcX11_load) Bd.pre
  have hown : s.vm.findClass RX11 = some m.cls := findClass_of_methodNamed Bd.named
  have hlocks := Bd.notSynchronized
  have hS : hs_Sx B s.heap s.heap [] := va_S.rf
  have hX : hs_cx cX11_load (some .int) 3 RX11 wcX11_load p s m (List.toArray [.ref (B + v0)]) meth c D E := ⟨hx, hb, hr, hml, hown, hts, hlocks, hK⟩
  have hl := lv_entry ([.ref (B + v0)]) (n := 3) (Nat.le_of_ble_eq_true rfl)
  rw [lg_entry_eq]
  generalize (lg_sl ([.ref (B + v0)]) ++ List.replicate (3 - (lg_sl ([.ref (B + v0)])).length) Slot.unset).toArray = ls at hl ⊢
  have hl : lv_has ls 3 [(0, .ref (B + v0))] := hl
  have hP : hs_P B D E g s.heap := hP
  unfold fX11_load at hf
  refine lv_aload_n hx hb dX11_load_0 rfl (lv_at hl 0 rfl) ?_
  obtain ⟨h1, hf⟩ := hs_ck hf
  obtain ⟨h2, hf⟩ := hs_ck hf
  refine hs_getr (C := RX11) (T := TX11) (N := 8) hx hb hts (fun w h => List.mem_cons_of_mem _ (inlX11 w h)) hown hK.1 hP h1 (by decide) rfl 5 (by decide) (hts _ (List.mem_cons_of_mem _ wq27)) (fun _ h => h) rfl h2 dX11_load_1 ?_
  refine lv_aload_n hx hb dX11_load_4 rfl (lv_at hl 0 rfl) ?_
  obtain ⟨h3, hf⟩ := hs_ck hf
  refine hs_getr (C := RX11) (T := TX11) (N := 8) hx hb hts (fun w h => List.mem_cons_of_mem _ (inlX11 w h)) hown hK.1 hP h1 (by decide) rfl 0 (by decide) (hts _ (List.mem_cons_of_mem _ wq16)) (fun _ h => h) rfl h3 dX11_load_5 ?_
  obtain ⟨h4, hf⟩ := hs_ck hf
  obtain ⟨r6, g5, h7, hf⟩ := hs_bd_some hf
  refine hs_calli (va_runV (As := [.ref (B + ((hs_R g v0 0) - 1))]) (rest := []) ⟨hx, hb, hml, hown, hts⟩ (ctX2_firstWrong l B D E ((hs_R g v0 5) - 1) ((hs_R g v0 0) - 1) g _ h7) (cwV 1 hts (hs_gV (fun _ h => List.mem_cons_of_mem _ h) wq182 wq183 wq184 wq26 wq185) rfl rfl rfl (by decide +kernel) ⟨Nat.le_of_ble_eq_true rfl, Nat.le_of_ble_eq_true rfl⟩) (hs_preV (r := (RX2, TX2, 1)) hP hK h4 (by decide) rfl) rfl rfl hl.1 rfl (lv_room (Nat.le_of_ble_eq_true rfl)) dX11_load_8 ⟨(Nat.le_of_ble_eq_true rfl), (Nat.le_of_ble_eq_true rfl)⟩) hS (fun H locs hP hS => ?_)
  refine lv_istore_n (lv' := [(1, .int r6), (0, .ref (B + v0))]) hx hb dX11_load_11 rfl hl (by decide) rfl (fun ls hl => ?_)
  refine lv_iload_n hx hb dX11_load_12 rfl (lv_at hl 0 rfl) ?_
  refine lv_iconst (v := -1) hx hb dX11_load_13 (by decide) ?_
  refine lv_icmp_ne (tgt := 42) hx hb dX11_load_14 (by decide) (fun hc => ?_) (fun hc => ?_)
  · replace hf := hs_f hf hc
    exact wX11_load_j42 hX hf hP hS (lv_sub hl [1, 0] rfl)
  · replace hf := hs_t hf hc
    refine lv_aload_n hx hb dX11_load_17 rfl (lv_at hl 1 rfl) ?_
    obtain ⟨h17, hf⟩ := hs_ck hf
    obtain ⟨h18, hf⟩ := hs_ck hf
    refine hs_getr (C := RX11) (T := TX11) (N := 8) hx hb hts (fun w h => List.mem_cons_of_mem _ (inlX11 w h)) hown hK.1 hP h17 (by decide) rfl 1 (by decide) (hts _ (List.mem_cons_of_mem _ wq17)) (fun _ h => h) rfl h18 dX11_load_18 ?_
    refine lv_astore_n (lv' := [(2, .ref (B + ((hs_R g5 v0 1) - 1))), (1, .int r6), (0, .ref (B + v0))]) hx hb dX11_load_21 rfl hl (by decide) rfl (fun ls hl => ?_)
    refine lv_aload_n hx hb dX11_load_22 rfl (lv_at hl 2 rfl) ?_
    refine lv_aload_n hx hb dX11_load_23 rfl (lv_at hl 2 rfl) ?_
    obtain ⟨h19, hf⟩ := hs_ck hf
    refine hs_getr (C := RX11) (T := TX11) (N := 8) hx hb hts (fun w h => List.mem_cons_of_mem _ (inlX11 w h)) hown hK.1 hP h17 (by decide) rfl 0 (by decide) (hts _ (List.mem_cons_of_mem _ wq16)) (fun _ h => h) rfl h19 dX11_load_24 ?_
    refine hs_putr (C := RX11) (T := TX11) (N := 8) hx hb hts (fun w h => List.mem_cons_of_mem _ (inlX11 w h)) tyX11 tyX11_ok nmX11 hown hK.1 hP hS h17 (by decide) rfl 1 (by decide) (hts _ (List.mem_cons_of_mem _ wq17)) (fun _ h => h) (Or.inl rfl) (fun _ => rfl) (fun _ => rfl) rfl dX11_load_27 (fun H locs hP hS => ?_)
    refine lv_aload_n hx hb dX11_load_30 rfl (lv_at hl 2 rfl) ?_
    refine lv_aload_n hx hb dX11_load_31 rfl (lv_at hl 0 rfl) ?_
    refine hs_putr (C := RX11) (T := TX11) (N := 8) hx hb hts (fun w h => List.mem_cons_of_mem _ (inlX11 w h)) tyX11 tyX11_ok nmX11 hown hK.1 hP hS h17 (by decide) rfl 0 (by decide) (hts _ (List.mem_cons_of_mem _ wq16)) (fun _ h => h) (Or.inl rfl) (fun _ => rfl) (fun _ => rfl) rfl dX11_load_32 (fun H locs hP hS => ?_)
    refine lv_aload_n hx hb dX11_load_35 rfl (lv_at hl 2 rfl) ?_
    obtain ⟨h20, hf⟩ := hs_ck hf
    refine hs_getr (C := RX11) (T := TX11) (N := 8) hx hb hts (fun w h => List.mem_cons_of_mem _ (inlX11 w h)) hown hK.1 hP h17 (by decide) rfl 3 (by decide) (hts _ (List.mem_cons_of_mem _ wq19)) (fun _ h => h) rfl h20 dX11_load_36 ?_
    obtain ⟨h21, hf⟩ := hs_ck hf
    obtain ⟨g22, h24, hf⟩ := hs_bv_some hf
    refine hs_callv (va_runV (As := []) (rest := []) ⟨hx, hb, hml, hown, hts⟩ (ctX0_empty l B D E ((hs_R (hs_wR (hs_wR g5 v0 1 ((hs_R g5 v0 0) - 1)) v0 0 ((hs_R g5 v0 1) - 1)) v0 3) - 1) (hs_wR (hs_wR g5 v0 1 ((hs_R g5 v0 0) - 1)) v0 0 ((hs_R g5 v0 1) - 1)) _ h24) (cwV 0 hts (hs_gV (fun _ h => List.mem_cons_of_mem _ h) wq384 wq385 wq386 wq15 wq387) rfl rfl rfl (by decide +kernel) ⟨Nat.le_of_ble_eq_true rfl, Nat.le_of_ble_eq_true rfl⟩) (hs_preV (r := (RX0, TX0, 5)) hP hK h21 (by decide) rfl) rfl rfl hl.1 rfl (lv_room (Nat.le_of_ble_eq_true rfl)) dX11_load_39 ⟨(Nat.le_of_ble_eq_true rfl), (Nat.le_of_ble_eq_true rfl)⟩) hS (fun H locs hP hS => ?_)
    exact wX11_load_j42 hX hf hP hS (lv_sub hl [2, 1] rfl)

theorem dX11_price_0 : decode cX11_price 0 = .ok (.iload_n 1, 1) := by decide +kernel
theorem dX11_price_1 : decode cX11_price 1 = .ok (.invokestatic 74, 3) := by decide +kernel
theorem dX11_price_4 : decode cX11_price 4 = .ok (.ifCond .eq 14, 3) := by decide +kernel
theorem dX11_price_7 : decode cX11_price 7 = .ok (.iload_n 2, 1) := by decide +kernel
theorem dX11_price_8 : decode cX11_price 8 = .ok (.ifCond .lt 10, 3) := by decide +kernel
theorem dX11_price_11 : decode cX11_price 11 = .ok (.iload_n 2, 1) := by decide +kernel
theorem dX11_price_12 : decode cX11_price 12 = .ok (.sipush 1000, 3) := by decide +kernel
theorem dX11_price_15 : decode cX11_price 15 = .ok (.if_icmp .le 6, 3) := by decide +kernel
theorem dX11_price_18 : decode cX11_price 18 = .ok (.bipush (-3), 2) := by decide +kernel
theorem dX11_price_20 : decode cX11_price 20 = .ok (.ireturn, 1) := by decide +kernel
theorem dX11_price_21 : decode cX11_price 21 = .ok (.aload_n 0, 1) := by decide +kernel
theorem dX11_price_22 : decode cX11_price 22 = .ok (.getfield 30, 3) := by decide +kernel
theorem dX11_price_25 : decode cX11_price 25 = .ok (.iload_n 1, 1) := by decide +kernel
theorem dX11_price_26 : decode cX11_price 26 = .ok (.invokevirtual 80, 3) := by decide +kernel
theorem dX11_price_29 : decode cX11_price 29 = .ok (.istore_n 3, 1) := by decide +kernel
theorem dX11_price_30 : decode cX11_price 30 = .ok (.aload_n 0, 1) := by decide +kernel
theorem dX11_price_31 : decode cX11_price 31 = .ok (.getfield 30, 3) := by decide +kernel
theorem dX11_price_34 : decode cX11_price 34 = .ok (.iload_n 1, 1) := by decide +kernel
theorem dX11_price_35 : decode cX11_price 35 = .ok (.iload_n 2, 1) := by decide +kernel
theorem dX11_price_36 : decode cX11_price 36 = .ok (.invokevirtual 83, 3) := by decide +kernel
theorem dX11_price_39 : decode cX11_price 39 = .ok (.iload_n 3, 1) := by decide +kernel
theorem dX11_price_40 : decode cX11_price 40 = .ok (.ireturn, 1) := by decide +kernel
abbrev wcX11_price : List Cond := .code yX11_price cX11_price 4 (some .int) :: wsL_law
def fX11_price (v0 : Nat) (v1 : Int32) (v2 : Int32) (g : hs_S) : Option (Int32 × hs_S) :=
  hs_bd (fX4_sizeOf v1 g) fun r2 g1 =>
  if r2 = 0 then (
    some ((-3 : Int32), g1)
  ) else (
    if v2 < 0 then (
      some ((-3 : Int32), g1)
    ) else (
      if v2 ≤ (1000 : Int32) then (
        if hs_kd g1 v0 = 9 then
        if ¬ (hs_R g1 v0 4) = 0 then
        if hs_kd g1 ((hs_R g1 v0 4) - 1) = 7 then
        hs_bd (fX8_of ((hs_R g1 v0 4) - 1) v1 g1) fun r8 g7 =>
        if hs_kd g7 v0 = 9 then
        if ¬ (hs_R g7 v0 4) = 0 then
        if hs_kd g7 ((hs_R g7 v0 4) - 1) = 7 then
        hs_bv (fX8_become ((hs_R g7 v0 4) - 1) v1 v2 g7) fun g13 =>
        some (r8, g13)
        else none else none else none else none else none else none
      ) else (
        some ((-3 : Int32), g1)
      )
    )
  )
abbrev rmX11_price : Room := { frames := 2, cells := 0, slots := 0, locals := 44 }
set_option maxHeartbeats 4000000 in
set_option maxRecDepth 100000 in
theorem ctX11_price (l : Launch) (B : Nat) (D : va_G) (E : Nat → ClassId) (v0 : Nat) (v1 : Int32) (v2 : Int32) (g : hs_S) (o : Int32 × hs_S) (hf : fX11_price v0 v1 v2 g = some o) : Met l yX11_price wcX11_price rmX11_price (hs_Pc B D E g [.ref (B + v0), .int v1, .int v2]) (hs_Qi B D E o) (0) (0) (hs_F B) := by
  refine Met.ofW (cc := cX11_price) (maxL := 4) (ret := (some .int)) (by decide) rfl ?_
  intro p e s m args below meth c s₁ Bd hml hv
  obtain ⟨rfl, hP, hK⟩ := hv
  have hx := Bd.exec
  have hb := Bd.bytes
  have hr := Bd.returns
  have hts := atoms_spec (ws := wcX11_price) Bd.pre
  have hown : s.vm.findClass RX11 = some m.cls := findClass_of_methodNamed Bd.named
  have hlocks := Bd.notSynchronized
  have hS : hs_Sx B s.heap s.heap [] := va_S.rf
  have hX : hs_cx cX11_price (some .int) 4 RX11 wcX11_price p s m (List.toArray [.ref (B + v0), .int v1, .int v2]) meth c D E := ⟨hx, hb, hr, hml, hown, hts, hlocks, hK⟩
  have hl := lv_entry ([.ref (B + v0), .int v1, .int v2]) (n := 4) (Nat.le_of_ble_eq_true rfl)
  rw [lg_entry_eq]
  generalize (lg_sl ([.ref (B + v0), .int v1, .int v2]) ++ List.replicate (4 - (lg_sl ([.ref (B + v0), .int v1, .int v2])).length) Slot.unset).toArray = ls at hl ⊢
  have hl : lv_has ls 4 [(0, .ref (B + v0)), (1, .int v1), (2, .int v2)] := hl
  have hP : hs_P B D E g s.heap := hP
  unfold fX11_price at hf
  refine lv_iload_n hx hb dX11_price_0 rfl (lv_at hl 1 rfl) ?_
  obtain ⟨r2, g1, h3, hf⟩ := hs_bd_some hf
  refine hs_calli (va_runS (As := [.int v1]) (rest := []) ⟨hx, hb, hml, hown, hts⟩ (ctX4_sizeOf l B D E v1 g _ h3) (va_cwS 1 hts (hs_gS (fun _ h => List.mem_cons_of_mem _ h) wq470 wq257 wq258 wq259) rfl rfl rfl (by decide +kernel) ⟨Nat.le_of_ble_eq_true rfl, Nat.le_of_ble_eq_true rfl⟩) (hs_pre hP hK) rfl rfl hl.1 rfl (lv_room (Nat.le_of_ble_eq_true rfl)) dX11_price_1 ⟨(Nat.le_of_ble_eq_true rfl), (Nat.le_of_ble_eq_true rfl)⟩) hS (fun H locs hP hS => ?_)
  refine lv_if_eq (tgt := 18) hx hb dX11_price_4 (by decide) (fun hc => ?_) (fun hc => ?_)
  · replace hf := hs_t hf hc
    refine lv_bipush (v := -3) hx hb dX11_price_18 (by decide) ?_
    exact hs_iret hx hb hr hlocks rfl hK hP hS hf dX11_price_20
  · replace hf := hs_f hf hc
    refine lv_iload_n hx hb dX11_price_7 rfl (lv_at hl 2 rfl) ?_
    refine lv_if_lt (tgt := 18) hx hb dX11_price_8 (by decide) (fun hc => ?_) (fun hc => ?_)
    · replace hf := hs_t hf hc
      refine lv_bipush (v := -3) hx hb dX11_price_18 (by decide) ?_
      exact hs_iret hx hb hr hlocks rfl hK hP hS hf dX11_price_20
    · replace hf := hs_f hf hc
      refine lv_iload_n hx hb dX11_price_11 rfl (lv_at hl 2 rfl) ?_
      refine lv_sipush (v := 1000) hx hb dX11_price_12 (by decide) ?_
      refine lv_icmp_le (tgt := 21) hx hb dX11_price_15 (by decide) (fun hc => ?_) (fun hc => ?_)
      · replace hf := hs_t hf hc
        refine lv_aload_n hx hb dX11_price_21 rfl (lv_at hl 0 rfl) ?_
        obtain ⟨h4, hf⟩ := hs_ck hf
        obtain ⟨h5, hf⟩ := hs_ck hf
        refine hs_getr (C := RX11) (T := TX11) (N := 8) hx hb hts (fun w h => List.mem_cons_of_mem _ (inlX11 w h)) hown hK.1 hP h4 (by decide) rfl 4 (by decide) (hts _ (List.mem_cons_of_mem _ wq23)) (fun _ h => h) rfl h5 dX11_price_22 ?_
        refine lv_iload_n hx hb dX11_price_25 rfl (lv_at hl 1 rfl) ?_
        obtain ⟨h6, hf⟩ := hs_ck hf
        obtain ⟨r8, g7, h9, hf⟩ := hs_bd_some hf
        refine hs_calli (va_runV (As := [.int v1]) (rest := []) ⟨hx, hb, hml, hown, hts⟩ (ctX8_of l B D E ((hs_R g1 v0 4) - 1) v1 g1 _ h9) (cwV 1 hts (hs_gV (fun _ h => List.mem_cons_of_mem _ h) wq471 wq472 wq473 wq22 wq474) rfl rfl rfl (by decide +kernel) ⟨Nat.le_of_ble_eq_true rfl, Nat.le_of_ble_eq_true rfl⟩) (hs_preV (r := (RX8, TX8, 1)) hP hK h6 (by decide) rfl) rfl rfl hl.1 rfl (lv_room (Nat.le_of_ble_eq_true rfl)) dX11_price_26 ⟨(Nat.le_of_ble_eq_true rfl), (Nat.le_of_ble_eq_true rfl)⟩) hS (fun H locs hP hS => ?_)
        refine lv_istore_n (lv' := [(3, .int r8), (0, .ref (B + v0)), (1, .int v1), (2, .int v2)]) hx hb dX11_price_29 rfl hl (by decide) rfl (fun ls hl => ?_)
        refine lv_aload_n hx hb dX11_price_30 rfl (lv_at hl 1 rfl) ?_
        obtain ⟨h10, hf⟩ := hs_ck hf
        obtain ⟨h11, hf⟩ := hs_ck hf
        refine hs_getr (C := RX11) (T := TX11) (N := 8) hx hb hts (fun w h => List.mem_cons_of_mem _ (inlX11 w h)) hown hK.1 hP h10 (by decide) rfl 4 (by decide) (hts _ (List.mem_cons_of_mem _ wq23)) (fun _ h => h) rfl h11 dX11_price_31 ?_
        refine lv_iload_n hx hb dX11_price_34 rfl (lv_at hl 2 rfl) ?_
        refine lv_iload_n hx hb dX11_price_35 rfl (lv_at hl 3 rfl) ?_
        obtain ⟨h12, hf⟩ := hs_ck hf
        obtain ⟨g13, h15, hf⟩ := hs_bv_some hf
        refine hs_callv (va_runV (As := [.int v1, .int v2]) (rest := []) ⟨hx, hb, hml, hown, hts⟩ (ctX8_become l B D E ((hs_R g7 v0 4) - 1) v1 v2 g7 _ h15) (cwV 2 hts (hs_gV (fun _ h => List.mem_cons_of_mem _ h) wq476 wq477 wq478 wq22 wq479) rfl rfl rfl (by decide +kernel) ⟨Nat.le_of_ble_eq_true rfl, Nat.le_of_ble_eq_true rfl⟩) (hs_preV (r := (RX8, TX8, 1)) hP hK h12 (by decide) rfl) rfl rfl hl.1 rfl (lv_room (Nat.le_of_ble_eq_true rfl)) dX11_price_36 ⟨(Nat.le_of_ble_eq_true rfl), (Nat.le_of_ble_eq_true rfl)⟩) hS (fun H locs hP hS => ?_)
        refine lv_iload_n hx hb dX11_price_39 rfl (lv_at hl 0 rfl) ?_
        exact hs_iret hx hb hr hlocks rfl hK hP hS hf dX11_price_40
      · replace hf := hs_f hf hc
        refine lv_bipush (v := -3) hx hb dX11_price_18 (by decide) ?_
        exact hs_iret hx hb hr hlocks rfl hK hP hS hf dX11_price_20

theorem dX11_rewrite_0 : decode cX11_rewrite 0 = .ok (.aload_n 0, 1) := by decide +kernel
theorem dX11_rewrite_1 : decode cX11_rewrite 1 = .ok (.getfield 18, 3) := by decide +kernel
theorem dX11_rewrite_4 : decode cX11_rewrite 4 = .ok (.getfield 71, 3) := by decide +kernel
theorem dX11_rewrite_7 : decode cX11_rewrite 7 = .ok (.ifCond .ne 6, 3) := by decide +kernel
theorem dX11_rewrite_10 : decode cX11_rewrite 10 = .ok (.bipush (-2), 2) := by decide +kernel
theorem dX11_rewrite_12 : decode cX11_rewrite 12 = .ok (.ireturn, 1) := by decide +kernel
theorem dX11_rewrite_13 : decode cX11_rewrite 13 = .ok (.aload_n 0, 1) := by decide +kernel
theorem dX11_rewrite_14 : decode cX11_rewrite 14 = .ok (.getfield 24, 3) := by decide +kernel
theorem dX11_rewrite_17 : decode cX11_rewrite 17 = .ok (.invokevirtual 68, 3) := by decide +kernel
theorem dX11_rewrite_20 : decode cX11_rewrite 20 = .ok (.iconst 0, 1) := by decide +kernel
theorem dX11_rewrite_21 : decode cX11_rewrite 21 = .ok (.istore_n 1, 1) := by decide +kernel
theorem dX11_rewrite_22 : decode cX11_rewrite 22 = .ok (.iload_n 1, 1) := by decide +kernel
theorem dX11_rewrite_23 : decode cX11_rewrite 23 = .ok (.aload_n 0, 1) := by decide +kernel
theorem dX11_rewrite_24 : decode cX11_rewrite 24 = .ok (.getfield 18, 3) := by decide +kernel
theorem dX11_rewrite_27 : decode cX11_rewrite 27 = .ok (.getfield 71, 3) := by decide +kernel
theorem dX11_rewrite_30 : decode cX11_rewrite 30 = .ok (.if_icmp .ge 69, 3) := by decide +kernel
theorem dX11_rewrite_33 : decode cX11_rewrite 33 = .ok (.aload_n 0, 1) := by decide +kernel
theorem dX11_rewrite_34 : decode cX11_rewrite 34 = .ok (.getfield 44, 3) := by decide +kernel
theorem dX11_rewrite_37 : decode cX11_rewrite 37 = .ok (.aload_n 0, 1) := by decide +kernel
theorem dX11_rewrite_38 : decode cX11_rewrite 38 = .ok (.getfield 18, 3) := by decide +kernel
theorem dX11_rewrite_41 : decode cX11_rewrite 41 = .ok (.iload_n 1, 1) := by decide +kernel
theorem dX11_rewrite_42 : decode cX11_rewrite 42 = .ok (.invokevirtual 87, 3) := by decide +kernel
theorem dX11_rewrite_45 : decode cX11_rewrite 45 = .ok (.aload_n 0, 1) := by decide +kernel
theorem dX11_rewrite_46 : decode cX11_rewrite 46 = .ok (.getfield 30, 3) := by decide +kernel
theorem dX11_rewrite_49 : decode cX11_rewrite 49 = .ok (.iconst 1, 1) := by decide +kernel
theorem dX11_rewrite_50 : decode cX11_rewrite 50 = .ok (.invokevirtual 91, 3) := by decide +kernel
theorem dX11_rewrite_53 : decode cX11_rewrite 53 = .ok (.istore_n 2, 1) := by decide +kernel
theorem dX11_rewrite_54 : decode cX11_rewrite 54 = .ok (.iload_n 2, 1) := by decide +kernel
theorem dX11_rewrite_55 : decode cX11_rewrite 55 = .ok (.sipush 4000, 3) := by decide +kernel
theorem dX11_rewrite_58 : decode cX11_rewrite 58 = .ok (.if_icmp .le 8, 3) := by decide +kernel
theorem dX11_rewrite_61 : decode cX11_rewrite 61 = .ok (.bipush (-10), 2) := by decide +kernel
theorem dX11_rewrite_63 : decode cX11_rewrite 63 = .ok (.iload_n 1, 1) := by decide +kernel
theorem dX11_rewrite_64 : decode cX11_rewrite 64 = .ok (.isub, 1) := by decide +kernel
theorem dX11_rewrite_65 : decode cX11_rewrite 65 = .ok (.ireturn, 1) := by decide +kernel
theorem dX11_rewrite_66 : decode cX11_rewrite 66 = .ok (.aload_n 0, 1) := by decide +kernel
theorem dX11_rewrite_67 : decode cX11_rewrite 67 = .ok (.getfield 44, 3) := by decide +kernel
theorem dX11_rewrite_70 : decode cX11_rewrite 70 = .ok (.aload_n 0, 1) := by decide +kernel
theorem dX11_rewrite_71 : decode cX11_rewrite 71 = .ok (.getfield 18, 3) := by decide +kernel
theorem dX11_rewrite_74 : decode cX11_rewrite 74 = .ok (.iload_n 1, 1) := by decide +kernel
theorem dX11_rewrite_75 : decode cX11_rewrite 75 = .ok (.invokevirtual 87, 3) := by decide +kernel
theorem dX11_rewrite_78 : decode cX11_rewrite 78 = .ok (.aload_n 0, 1) := by decide +kernel
theorem dX11_rewrite_79 : decode cX11_rewrite 79 = .ok (.getfield 24, 3) := by decide +kernel
theorem dX11_rewrite_82 : decode cX11_rewrite 82 = .ok (.aload_n 0, 1) := by decide +kernel
theorem dX11_rewrite_83 : decode cX11_rewrite 83 = .ok (.getfield 24, 3) := by decide +kernel
theorem dX11_rewrite_86 : decode cX11_rewrite 86 = .ok (.iload_n 1, 1) := by decide +kernel
theorem dX11_rewrite_87 : decode cX11_rewrite 87 = .ok (.invokevirtual 87, 3) := by decide +kernel
theorem dX11_rewrite_90 : decode cX11_rewrite 90 = .ok (.invokevirtual 95, 3) := by decide +kernel
theorem dX11_rewrite_93 : decode cX11_rewrite 93 = .ok (.iinc 1 1, 3) := by decide +kernel
theorem dX11_rewrite_96 : decode cX11_rewrite 96 = .ok (.goto (-74), 3) := by decide +kernel
theorem dX11_rewrite_99 : decode cX11_rewrite 99 = .ok (.aload_n 0, 1) := by decide +kernel
theorem dX11_rewrite_100 : decode cX11_rewrite 100 = .ok (.getfield 24, 3) := by decide +kernel
theorem dX11_rewrite_103 : decode cX11_rewrite 103 = .ok (.aload_n 0, 1) := by decide +kernel
theorem dX11_rewrite_104 : decode cX11_rewrite 104 = .ok (.getfield 18, 3) := by decide +kernel
theorem dX11_rewrite_107 : decode cX11_rewrite 107 = .ok (.getfield 71, 3) := by decide +kernel
theorem dX11_rewrite_110 : decode cX11_rewrite 110 = .ok (.putfield 71, 3) := by decide +kernel
theorem dX11_rewrite_113 : decode cX11_rewrite 113 = .ok (.aload_n 0, 1) := by decide +kernel
theorem dX11_rewrite_114 : decode cX11_rewrite 114 = .ok (.getfield 24, 3) := by decide +kernel
theorem dX11_rewrite_117 : decode cX11_rewrite 117 = .ok (.invokevirtual 99, 3) := by decide +kernel
theorem dX11_rewrite_120 : decode cX11_rewrite 120 = .ok (.ireturn, 1) := by decide +kernel
abbrev wcX11_rewrite : List Cond := .code yX11_rewrite cX11_rewrite 3 (some .int) :: wsL_law
def lX11_rewrite_22 : Nat → Nat → Int32 → hs_S → Option (Nat × Int32 × hs_S)
  | 0, _, _, _ => none
  | n + 1, v0, v1, g =>
    if hs_kd g v0 = 9 then
    if ¬ (hs_R g v0 1) = 0 then
    if hs_kd g ((hs_R g v0 1) - 1) = 0 then
    if (hs_I g ((hs_R g v0 1) - 1) 4) ≤ v1 then (
      some (0, v1, g)
    ) else (
      if ¬ (hs_R g v0 6) = 0 then
      hs_bd (fX0_method ((hs_R g v0 1) - 1) v1 g) fun r14 g13 =>
      if hs_kd g13 v0 = 9 then
      if ¬ (hs_R g13 v0 4) = 0 then
      if hs_kd g13 ((hs_R g v0 6) - 1) = 4 then
      hs_bd ((none : Option (Int32 × hs_S))) fun r20 g19 =>
      none
      else none else none else none else none
    )
    else none else none else none
theorem lX11_rewrite_22_s (n : Nat) (v0 : Nat) (v1 : Int32) (g : hs_S) : lX11_rewrite_22 (n + 1) v0 v1 g =
    if hs_kd g v0 = 9 then
    if ¬ (hs_R g v0 1) = 0 then
    if hs_kd g ((hs_R g v0 1) - 1) = 0 then
    if (hs_I g ((hs_R g v0 1) - 1) 4) ≤ v1 then (
      some (0, v1, g)
    ) else (
      if ¬ (hs_R g v0 6) = 0 then
      hs_bd (fX0_method ((hs_R g v0 1) - 1) v1 g) fun r14 g13 =>
      if hs_kd g13 v0 = 9 then
      if ¬ (hs_R g13 v0 4) = 0 then
      if hs_kd g13 ((hs_R g v0 6) - 1) = 4 then
      hs_bd ((none : Option (Int32 × hs_S))) fun r20 g19 =>
      none
      else none else none else none else none
    )
    else none else none else none := rfl
def fX11_rewrite (v0 : Nat) (g : hs_S) : Option (Int32 × hs_S) :=
  if hs_kd g v0 = 9 then
  if ¬ (hs_R g v0 1) = 0 then
  if hs_kd g ((hs_R g v0 1) - 1) = 0 then
  if (hs_I g ((hs_R g v0 1) - 1) 4) = 0 then (
    some ((-2 : Int32), g)
  ) else (
    if ¬ (hs_R g v0 3) = 0 then
    if hs_kd g ((hs_R g v0 3) - 1) = 0 then
    hs_bv (fX0_empty ((hs_R g v0 3) - 1) g) fun g6 =>
    hs_b3 (lX11_rewrite_22 hs_N v0 (0 : Int32) g6) fun k23 x22 g24 =>
    if k23 = 0 then (
      if hs_kd g24 v0 = 9 then
      if ¬ (hs_R g24 v0 3) = 0 then
      if ¬ (hs_R g24 v0 1) = 0 then
      if hs_kd g24 ((hs_R g24 v0 1) - 1) = 0 then
      if hs_kd g24 ((hs_R g24 v0 3) - 1) = 0 then
      if ¬ (hs_R (hs_wI g24 ((hs_R g24 v0 3) - 1) 4 (hs_I g24 ((hs_R g24 v0 1) - 1) 4)) v0 3) = 0 then
      if hs_kd (hs_wI g24 ((hs_R g24 v0 3) - 1) 4 (hs_I g24 ((hs_R g24 v0 1) - 1) 4)) ((hs_R (hs_wI g24 ((hs_R g24 v0 3) - 1) 4 (hs_I g24 ((hs_R g24 v0 1) - 1) 4)) v0 3) - 1) = 0 then
      hs_bd ((none : Option (Int32 × hs_S))) fun r34 g33 =>
      none
      else none else none else none else none else none else none else none
    ) else (
      some (((-10 : Int32) - x22), g24)
    )
    else none else none
  )
  else none else none else none
abbrev rmX11_rewrite : Room := { frames := 6, cells := 0, slots := 0, locals := 141 }
set_option maxHeartbeats 4000000 in
set_option maxRecDepth 100000 in
theorem wX11_rewrite_22 {p : Program} {l : Launch} {e : Env} {s : State} {m : MethodId} {args : Array Value} {below : List Frame} {meth : Method} {c : Code} {B : Nat} {D : va_G} {E : Nat → ClassId} (hX : hs_cx cX11_rewrite (some .int) 3 RX11 wcX11_rewrite p s m args meth c D E) {Q : State → Prop} {o : Nat × Int32 × hs_S} {v0 : Nat} (hex0 : o.1 = 0 → ∀ (H : Heap) (locs : List Loc) (ls : Array Slot), hs_P B D E (o.2.2) H → hs_Sx B s.heap H locs → lv_has ls 3 [(0, .ref (B + v0))] → W p l e rmX11_rewrite s m args below meth c H locs 0 0 Q (F0 m 99 ls [])) (hex1 : o.1 = 1 → ∀ (H : Heap) (locs : List Loc) (ls : Array Slot), hs_P B D E (o.2.2) H → hs_Sx B s.heap H locs → lv_has ls 3 [(1, .int (o.2.1))] → W p l e rmX11_rewrite s m args below meth c H locs 0 0 Q (F0 m 61 ls [])) : ∀ (n : Nat) (v1 : Int32) (g : hs_S), lX11_rewrite_22 n v0 v1 g = some o → ∀ (H : Heap) (locs : List Loc) (ls : Array Slot), hs_P B D E g H → hs_Sx B s.heap H locs → lv_has ls 3 [(0, .ref (B + v0)), (1, .int v1)] → W p l e rmX11_rewrite s m args below meth c H locs 0 0 Q (F0 m 22 ls []) := by
  obtain ⟨hx, hb, hr, hml, hown, hts, hlocks, hK⟩ := id hX
  intro n
  induction n with
  | zero =>
    intro v1 g hf
    cases hf
  | succ n ih =>
    intro v1 g hf H locs ls hP hS hl
    replace hf := (lX11_rewrite_22_s n v0 v1 g).symm.trans hf
    refine lv_iload_n hx hb dX11_rewrite_22 rfl (lv_at hl 1 rfl) ?_
    refine lv_aload_n hx hb dX11_rewrite_23 rfl (lv_at hl 0 rfl) ?_
    obtain ⟨h9, hf⟩ := hs_ck hf
    obtain ⟨h10, hf⟩ := hs_ck hf
    refine hs_getr (C := RX11) (T := TX11) (N := 8) hx hb hts (fun w h => List.mem_cons_of_mem _ (inlX11 w h)) hown hK.1 hP h9 (by decide) rfl 1 (by decide) (hts _ (List.mem_cons_of_mem _ wq17)) (fun _ h => h) rfl h10 dX11_rewrite_24 ?_
    obtain ⟨h11, hf⟩ := hs_ck hf
    refine hs_geti (C := RX0) (T := TX0) (N := 5) hx hb hts (fun w h => List.mem_cons_of_mem _ (inlX0 w h)) hown hK.1 hP h11 (by decide) rfl 4 (by decide) (hts _ (List.mem_cons_of_mem _ wq181)) (fun _ h => h) rfl dX11_rewrite_27 ?_
    refine lv_icmp_ge (tgt := 99) hx hb dX11_rewrite_30 (by decide) (fun hc => ?_) (fun hc => ?_)
    · replace hf := hs_t hf hc
      obtain rfl := Option.some.inj hf
      exact hex0 rfl _ _ _ hP hS (lv_sub hl [0] rfl)
    · replace hf := hs_f hf hc
      refine lv_aload_n hx hb dX11_rewrite_33 rfl (lv_at hl 0 rfl) ?_
      obtain ⟨h12, hf⟩ := hs_ck hf
      refine hs_getr (C := RX11) (T := TX11) (N := 8) hx hb hts (fun w h => List.mem_cons_of_mem _ (inlX11 w h)) hown hK.1 hP h9 (by decide) rfl 6 (by decide) (hts _ (List.mem_cons_of_mem _ wq31)) (fun _ h => h) rfl h12 dX11_rewrite_34 ?_
      refine lv_aload_n hx hb dX11_rewrite_37 rfl (lv_at hl 0 rfl) ?_
      refine hs_getr (C := RX11) (T := TX11) (N := 8) hx hb hts (fun w h => List.mem_cons_of_mem _ (inlX11 w h)) hown hK.1 hP h9 (by decide) rfl 1 (by decide) (hts _ (List.mem_cons_of_mem _ wq17)) (fun _ h => h) rfl h10 dX11_rewrite_38 ?_
      refine lv_iload_n hx hb dX11_rewrite_41 rfl (lv_at hl 1 rfl) ?_
      obtain ⟨r14, g13, h15, hf⟩ := hs_bd_some hf
      refine hs_callr (va_runV (As := [.int v1]) (rest := [.ref (B + ((hs_R g v0 6) - 1))]) ⟨hx, hb, hml, hown, hts⟩ (ctX0_method l B D E ((hs_R g v0 1) - 1) v1 g _ h15) (cwV 1 hts (hs_gV (fun _ h => List.mem_cons_of_mem _ h) wq488 wq108 wq109 wq15 wq110) rfl rfl rfl (by decide +kernel) ⟨Nat.le_of_ble_eq_true rfl, Nat.le_of_ble_eq_true rfl⟩) (hs_preV (r := (RX0, TX0, 5)) hP hK h11 (by decide) rfl) rfl rfl hl.1 rfl (lv_room (Nat.le_of_ble_eq_true rfl)) dX11_rewrite_42 ⟨(Nat.le_of_ble_eq_true rfl), (Nat.le_of_ble_eq_true rfl)⟩) hS (fun H locs hP hS => ?_)
      refine lv_aload_n hx hb dX11_rewrite_45 rfl (lv_at hl 0 rfl) ?_
      obtain ⟨h16, hf⟩ := hs_ck hf
      obtain ⟨h17, hf⟩ := hs_ck hf
      refine hs_getr (C := RX11) (T := TX11) (N := 8) hx hb hts (fun w h => List.mem_cons_of_mem _ (inlX11 w h)) hown hK.1 hP h16 (by decide) rfl 4 (by decide) (hts _ (List.mem_cons_of_mem _ wq23)) (fun _ h => h) rfl h17 dX11_rewrite_46 ?_
      refine lv_iconst (v := 1) hx hb dX11_rewrite_49 (by decide) ?_
      obtain ⟨h18, hf⟩ := hs_ck hf
      obtain ⟨r20, g19, h21, hf⟩ := hs_bd_some hf
      cases h21

set_option maxHeartbeats 4000000 in
set_option maxRecDepth 100000 in
theorem ctX11_rewrite (l : Launch) (B : Nat) (D : va_G) (E : Nat → ClassId) (v0 : Nat) (g : hs_S) (o : Int32 × hs_S) (hf : fX11_rewrite v0 g = some o) : Met l yX11_rewrite wcX11_rewrite rmX11_rewrite (hs_Pc B D E g [.ref (B + v0)]) (hs_Qi B D E o) (0) (0) (hs_F B) := by
  refine Met.ofW (cc := cX11_rewrite) (maxL := 3) (ret := (some .int)) (by decide) rfl ?_
  intro p e s m args below meth c s₁ Bd hml hv
  obtain ⟨rfl, hP, hK⟩ := hv
  have hx := Bd.exec
  have hb := Bd.bytes
  have hr := Bd.returns
  have hts := atoms_spec (ws := wcX11_rewrite) Bd.pre
  have hown : s.vm.findClass RX11 = some m.cls := findClass_of_methodNamed Bd.named
  have hlocks := Bd.notSynchronized
  have hS : hs_Sx B s.heap s.heap [] := va_S.rf
  have hX : hs_cx cX11_rewrite (some .int) 3 RX11 wcX11_rewrite p s m (List.toArray [.ref (B + v0)]) meth c D E := ⟨hx, hb, hr, hml, hown, hts, hlocks, hK⟩
  have hl := lv_entry ([.ref (B + v0)]) (n := 3) (Nat.le_of_ble_eq_true rfl)
  rw [lg_entry_eq]
  generalize (lg_sl ([.ref (B + v0)]) ++ List.replicate (3 - (lg_sl ([.ref (B + v0)])).length) Slot.unset).toArray = ls at hl ⊢
  have hl : lv_has ls 3 [(0, .ref (B + v0))] := hl
  have hP : hs_P B D E g s.heap := hP
  unfold fX11_rewrite at hf
  refine lv_aload_n hx hb dX11_rewrite_0 rfl (lv_at hl 0 rfl) ?_
  obtain ⟨h1, hf⟩ := hs_ck hf
  obtain ⟨h2, hf⟩ := hs_ck hf
  refine hs_getr (C := RX11) (T := TX11) (N := 8) hx hb hts (fun w h => List.mem_cons_of_mem _ (inlX11 w h)) hown hK.1 hP h1 (by decide) rfl 1 (by decide) (hts _ (List.mem_cons_of_mem _ wq17)) (fun _ h => h) rfl h2 dX11_rewrite_1 ?_
  obtain ⟨h3, hf⟩ := hs_ck hf
  refine hs_geti (C := RX0) (T := TX0) (N := 5) hx hb hts (fun w h => List.mem_cons_of_mem _ (inlX0 w h)) hown hK.1 hP h3 (by decide) rfl 4 (by decide) (hts _ (List.mem_cons_of_mem _ wq181)) (fun _ h => h) rfl dX11_rewrite_4 ?_
  refine lv_if_ne (tgt := 13) hx hb dX11_rewrite_7 (by decide) (fun hc => ?_) (fun hc => ?_)
  · replace hf := hs_f hf hc
    refine lv_aload_n hx hb dX11_rewrite_13 rfl (lv_at hl 0 rfl) ?_
    obtain ⟨h4, hf⟩ := hs_ck hf
    refine hs_getr (C := RX11) (T := TX11) (N := 8) hx hb hts (fun w h => List.mem_cons_of_mem _ (inlX11 w h)) hown hK.1 hP h1 (by decide) rfl 3 (by decide) (hts _ (List.mem_cons_of_mem _ wq19)) (fun _ h => h) rfl h4 dX11_rewrite_14 ?_
    obtain ⟨h5, hf⟩ := hs_ck hf
    obtain ⟨g6, h8, hf⟩ := hs_bv_some hf
    refine hs_callv (va_runV (As := []) (rest := []) ⟨hx, hb, hml, hown, hts⟩ (ctX0_empty l B D E ((hs_R g v0 3) - 1) g _ h8) (cwV 0 hts (hs_gV (fun _ h => List.mem_cons_of_mem _ h) wq384 wq385 wq386 wq15 wq387) rfl rfl rfl (by decide +kernel) ⟨Nat.le_of_ble_eq_true rfl, Nat.le_of_ble_eq_true rfl⟩) (hs_preV (r := (RX0, TX0, 5)) hP hK h5 (by decide) rfl) rfl rfl hl.1 rfl (lv_room (Nat.le_of_ble_eq_true rfl)) dX11_rewrite_17 ⟨(Nat.le_of_ble_eq_true rfl), (Nat.le_of_ble_eq_true rfl)⟩) hS (fun H locs hP hS => ?_)
    refine lv_iconst (v := 0) hx hb dX11_rewrite_20 (by decide) ?_
    refine lv_istore_n (lv' := [(1, .int (0 : Int32)), (0, .ref (B + v0))]) hx hb dX11_rewrite_21 rfl hl (by decide) rfl (fun ls hl => ?_)
    obtain ⟨k23, x22, g24, h25, hf⟩ := hs_b3_some hf
    refine wX11_rewrite_22 hX (fun hlab H locs ls hP hS hl => ?_) (fun hlab H locs ls hP hS hl => ?_) hs_N _ _ h25 _ _ _ hP hS (lv_sub hl [1, 0] rfl)
    · replace hlab : k23 = 0 := hlab
      replace hf := hs_t hf hlab
      refine lv_aload_n hx hb dX11_rewrite_99 rfl (lv_at hl 0 rfl) ?_
      obtain ⟨h26, hf⟩ := hs_ck hf
      obtain ⟨h27, hf⟩ := hs_ck hf
      refine hs_getr (C := RX11) (T := TX11) (N := 8) hx hb hts (fun w h => List.mem_cons_of_mem _ (inlX11 w h)) hown hK.1 hP h26 (by decide) rfl 3 (by decide) (hts _ (List.mem_cons_of_mem _ wq19)) (fun _ h => h) rfl h27 dX11_rewrite_100 ?_
      refine lv_aload_n hx hb dX11_rewrite_103 rfl (lv_at hl 0 rfl) ?_
      obtain ⟨h28, hf⟩ := hs_ck hf
      refine hs_getr (C := RX11) (T := TX11) (N := 8) hx hb hts (fun w h => List.mem_cons_of_mem _ (inlX11 w h)) hown hK.1 hP h26 (by decide) rfl 1 (by decide) (hts _ (List.mem_cons_of_mem _ wq17)) (fun _ h => h) rfl h28 dX11_rewrite_104 ?_
      obtain ⟨h29, hf⟩ := hs_ck hf
      refine hs_geti (C := RX0) (T := TX0) (N := 5) hx hb hts (fun w h => List.mem_cons_of_mem _ (inlX0 w h)) hown hK.1 hP h29 (by decide) rfl 4 (by decide) (hts _ (List.mem_cons_of_mem _ wq181)) (fun _ h => h) rfl dX11_rewrite_107 ?_
      obtain ⟨h30, hf⟩ := hs_ck hf
      refine hs_puti (C := RX0) (T := TX0) (N := 5) hx hb hts (fun w h => List.mem_cons_of_mem _ (inlX0 w h)) tyX0 tyX0_ok nmX0 hown hK.1 hP hS h30 (by decide) rfl 4 (by decide) (hts _ (List.mem_cons_of_mem _ wq181)) (fun _ h => h) (Or.inl rfl) rfl rfl rfl dX11_rewrite_110 (fun H locs hP hS => ?_)
      refine lv_aload_n hx hb dX11_rewrite_113 rfl (lv_at hl 0 rfl) ?_
      obtain ⟨h31, hf⟩ := hs_ck hf
      refine hs_getr (C := RX11) (T := TX11) (N := 8) hx hb hts (fun w h => List.mem_cons_of_mem _ (inlX11 w h)) hown hK.1 hP h26 (by decide) rfl 3 (by decide) (hts _ (List.mem_cons_of_mem _ wq19)) (fun _ h => h) rfl h31 dX11_rewrite_114 ?_
      obtain ⟨h32, hf⟩ := hs_ck hf
      obtain ⟨r34, g33, h35, hf⟩ := hs_bd_some hf
      cases h35
    · replace hlab : k23 = 1 := hlab
      replace hf := hs_f hf (by rw [hlab]; decide)
      refine lv_bipush (v := -10) hx hb dX11_rewrite_61 (by decide) ?_
      refine lv_iload_n hx hb dX11_rewrite_63 rfl (lv_at hl 0 rfl) ?_
      refine lv_isub hx hb dX11_rewrite_64 ?_
      exact hs_iret hx hb hr hlocks rfl hK hP hS hf dX11_rewrite_65
  · replace hf := hs_t hf hc
    refine lv_bipush (v := -2) hx hb dX11_rewrite_10 (by decide) ?_
    exact hs_iret hx hb hr hlocks rfl hK hP hS hf dX11_rewrite_12

theorem dX11_told_0 : decode cX11_told 0 = .ok (.iload_n 2, 1) := by decide +kernel
theorem dX11_told_1 : decode cX11_told 1 = .ok (.ifCond .eq 10, 3) := by decide +kernel
theorem dX11_told_4 : decode cX11_told 4 = .ok (.aload_n 0, 1) := by decide +kernel
theorem dX11_told_5 : decode cX11_told 5 = .ok (.getfield 24, 3) := by decide +kernel
theorem dX11_told_8 : decode cX11_told 8 = .ok (.goto 7, 3) := by decide +kernel
theorem dX11_told_11 : decode cX11_told 11 = .ok (.aload_n 0, 1) := by decide +kernel
theorem dX11_told_12 : decode cX11_told 12 = .ok (.getfield 18, 3) := by decide +kernel
theorem dX11_told_15 : decode cX11_told 15 = .ok (.astore 4, 2) := by decide +kernel
theorem dX11_told_17 : decode cX11_told 17 = .ok (.aload 4, 2) := by decide +kernel
theorem dX11_told_19 : decode cX11_told 19 = .ok (.getfield 71, 3) := by decide +kernel
theorem dX11_told_22 : decode cX11_told 22 = .ok (.ifCond .ne 6, 3) := by decide +kernel
theorem dX11_told_25 : decode cX11_told 25 = .ok (.bipush (-2), 2) := by decide +kernel
theorem dX11_told_27 : decode cX11_told 27 = .ok (.ireturn, 1) := by decide +kernel
theorem dX11_told_28 : decode cX11_told 28 = .ok (.aload 4, 2) := by decide +kernel
theorem dX11_told_30 : decode cX11_told 30 = .ok (.iload_n 1, 1) := by decide +kernel
theorem dX11_told_31 : decode cX11_told 31 = .ok (.invokevirtual 103, 3) := by decide +kernel
theorem dX11_told_34 : decode cX11_told 34 = .ok (.ifCond .ne 6, 3) := by decide +kernel
theorem dX11_told_37 : decode cX11_told 37 = .ok (.bipush (-3), 2) := by decide +kernel
theorem dX11_told_39 : decode cX11_told 39 = .ok (.ireturn, 1) := by decide +kernel
theorem dX11_told_40 : decode cX11_told 40 = .ok (.aload 4, 2) := by decide +kernel
theorem dX11_told_42 : decode cX11_told 42 = .ok (.iload_n 1, 1) := by decide +kernel
theorem dX11_told_43 : decode cX11_told 43 = .ok (.invokevirtual 87, 3) := by decide +kernel
theorem dX11_told_46 : decode cX11_told 46 = .ok (.astore 5, 2) := by decide +kernel
theorem dX11_told_48 : decode cX11_told 48 = .ok (.iload_n 3, 1) := by decide +kernel
theorem dX11_told_49 : decode cX11_told 49 = .ok (.tableswitch 83 0 5 #[39, 45, 51, 57, 63, 69], 39) := by decide +kernel
theorem dX11_told_88 : decode cX11_told 88 = .ok (.aload 5, 2) := by decide +kernel
theorem dX11_told_90 : decode cX11_told 90 = .ok (.getfield 107, 3) := by decide +kernel
theorem dX11_told_93 : decode cX11_told 93 = .ok (.ireturn, 1) := by decide +kernel
theorem dX11_told_94 : decode cX11_told 94 = .ok (.aload 5, 2) := by decide +kernel
theorem dX11_told_96 : decode cX11_told 96 = .ok (.getfield 112, 3) := by decide +kernel
theorem dX11_told_99 : decode cX11_told 99 = .ok (.ireturn, 1) := by decide +kernel
theorem dX11_told_100 : decode cX11_told 100 = .ok (.aload 5, 2) := by decide +kernel
theorem dX11_told_102 : decode cX11_told 102 = .ok (.getfield 115, 3) := by decide +kernel
theorem dX11_told_105 : decode cX11_told 105 = .ok (.ireturn, 1) := by decide +kernel
theorem dX11_told_106 : decode cX11_told 106 = .ok (.aload 5, 2) := by decide +kernel
theorem dX11_told_108 : decode cX11_told 108 = .ok (.getfield 118, 3) := by decide +kernel
theorem dX11_told_111 : decode cX11_told 111 = .ok (.ireturn, 1) := by decide +kernel
theorem dX11_told_112 : decode cX11_told 112 = .ok (.aload 5, 2) := by decide +kernel
theorem dX11_told_114 : decode cX11_told 114 = .ok (.getfield 121, 3) := by decide +kernel
theorem dX11_told_117 : decode cX11_told 117 = .ok (.ireturn, 1) := by decide +kernel
theorem dX11_told_118 : decode cX11_told 118 = .ok (.iload_n 2, 1) := by decide +kernel
theorem dX11_told_119 : decode cX11_told 119 = .ok (.ifCond .eq 7, 3) := by decide +kernel
theorem dX11_told_122 : decode cX11_told 122 = .ok (.iconst (-1), 1) := by decide +kernel
theorem dX11_told_123 : decode cX11_told 123 = .ok (.goto 8, 3) := by decide +kernel
theorem dX11_told_126 : decode cX11_told 126 = .ok (.aload 5, 2) := by decide +kernel
theorem dX11_told_128 : decode cX11_told 128 = .ok (.getfield 124, 3) := by decide +kernel
theorem dX11_told_131 : decode cX11_told 131 = .ok (.ireturn, 1) := by decide +kernel
theorem dX11_told_132 : decode cX11_told 132 = .ok (.bipush (-3), 2) := by decide +kernel
theorem dX11_told_134 : decode cX11_told 134 = .ok (.ireturn, 1) := by decide +kernel
abbrev wcX11_told : List Cond := .code yX11_told cX11_told 6 (some .int) :: wsL_law
def jX11_told_15 (v1 : Int32) (v2 : Int32) (v3 : Int32) (s0 : Nat) (g : hs_S) : Option (Int32 × hs_S) :=
  if hs_kd g s0 = 0 then
  if (hs_I g s0 4) = 0 then (
    some ((-2 : Int32), g)
  ) else (
    hs_bd (fX0_has s0 v1 g) fun r5 g4 =>
    if r5 = 0 then (
      some ((-3 : Int32), g4)
    ) else (
      if hs_kd g4 s0 = 0 then
      hs_bd (fX0_method s0 v1 g4) fun r9 g8 =>
      if v3 = (0 : Int32) then (
        if hs_kd g8 r9 = 6 then
        some ((hs_I g8 r9 3), g8)
        else none
      ) else (
      if v3 = (1 : Int32) then (
        if hs_kd g8 r9 = 6 then
        some ((hs_I g8 r9 7), g8)
        else none
      ) else (
      if v3 = (2 : Int32) then (
        if hs_kd g8 r9 = 6 then
        some ((hs_I g8 r9 6), g8)
        else none
      ) else (
      if v3 = (3 : Int32) then (
        if hs_kd g8 r9 = 6 then
        some ((hs_I g8 r9 8), g8)
        else none
      ) else (
      if v3 = (4 : Int32) then (
        if hs_kd g8 r9 = 6 then
        some ((hs_I g8 r9 9), g8)
        else none
      ) else (
      if v3 = (5 : Int32) then (
        if v2 = 0 then (
          if hs_kd g8 r9 = 6 then
          some ((hs_I g8 r9 10), g8)
          else none
        ) else (
          some ((-1 : Int32), g8)
        )
      ) else (
        some ((-3 : Int32), g8)
      ))))))
      else none
    )
  )
  else none
def fX11_told (v0 : Nat) (v1 : Int32) (v2 : Int32) (v3 : Int32) (g : hs_S) : Option (Int32 × hs_S) :=
  if v2 = 0 then (
    if hs_kd g v0 = 9 then
    if ¬ (hs_R g v0 1) = 0 then
    jX11_told_15 v1 v2 v3 ((hs_R g v0 1) - 1) g
    else none else none
  ) else (
    if hs_kd g v0 = 9 then
    if ¬ (hs_R g v0 3) = 0 then
    jX11_told_15 v1 v2 v3 ((hs_R g v0 3) - 1) g
    else none else none
  )
abbrev rmX11_told : Room := { frames := 1, cells := 0, slots := 0, locals := 21 }
set_option maxHeartbeats 4000000 in
set_option maxRecDepth 100000 in
theorem wX11_told_j15 {p : Program} {l : Launch} {e : Env} {s : State} {m : MethodId} {args : Array Value} {below : List Frame} {meth : Method} {c : Code} {B : Nat} {D : va_G} {E : Nat → ClassId} (hX : hs_cx cX11_told (some .int) 6 RX11 wcX11_told p s m args meth c D E) {o : Int32 × hs_S}  {v1 : Int32} {v2 : Int32} {v3 : Int32} {s0 : Nat}   {g : hs_S} {H : Heap} {locs : List Loc} {ls : Array Slot} (hf : jX11_told_15 v1 v2 v3 s0 g = some o) (hP : hs_P B D E g H) (hS : hs_Sx B s.heap H locs) (hl : lv_has ls 6 [(1, .int v1), (2, .int v2), (3, .int v3)]) : W p l e rmX11_told s m args below meth c H locs 0 0 (MQ below (hs_Qi B D E o) args s 0 0 (hs_F B)) (F0 m 15 ls [.ref (B + s0)]) := by
  obtain ⟨hx, hb, hr, hml, hown, hts, hlocks, hK⟩ := id hX
  unfold jX11_told_15 at hf
  refine lv_astore (lv' := [(4, .ref (B + s0)), (1, .int v1), (2, .int v2), (3, .int v3)]) hx hb dX11_told_15 hl (by decide) rfl (fun ls hl => ?_)
  refine lv_aload hx hb dX11_told_17 (lv_at hl 0 rfl) ?_
  obtain ⟨h3, hf⟩ := hs_ck hf
  refine hs_geti (C := RX0) (T := TX0) (N := 5) hx hb hts (fun w h => List.mem_cons_of_mem _ (inlX0 w h)) hown hK.1 hP h3 (by decide) rfl 4 (by decide) (hts _ (List.mem_cons_of_mem _ wq181)) (fun _ h => h) rfl dX11_told_19 ?_
  refine lv_if_ne (tgt := 28) hx hb dX11_told_22 (by decide) (fun hc => ?_) (fun hc => ?_)
  · replace hf := hs_f hf hc
    refine lv_aload hx hb dX11_told_28 (lv_at hl 0 rfl) ?_
    refine lv_iload_n hx hb dX11_told_30 rfl (lv_at hl 1 rfl) ?_
    obtain ⟨r5, g4, h6, hf⟩ := hs_bd_some hf
    refine hs_calli (va_runV (As := [.int v1]) (rest := []) ⟨hx, hb, hml, hown, hts⟩ (ctX0_has l B D E s0 v1 g _ h6) (cwV 1 hts (hs_gV (fun _ h => List.mem_cons_of_mem _ h) wq641 wq275 wq276 wq15 wq277) rfl rfl rfl (by decide +kernel) ⟨Nat.le_of_ble_eq_true rfl, Nat.le_of_ble_eq_true rfl⟩) (hs_preV (r := (RX0, TX0, 5)) hP hK h3 (by decide) rfl) rfl rfl hl.1 rfl (lv_room (Nat.le_of_ble_eq_true rfl)) dX11_told_31 ⟨(Nat.le_of_ble_eq_true rfl), (Nat.le_of_ble_eq_true rfl)⟩) hS (fun H locs hP hS => ?_)
    refine lv_if_ne (tgt := 40) hx hb dX11_told_34 (by decide) (fun hc => ?_) (fun hc => ?_)
    · replace hf := hs_f hf hc
      refine lv_aload hx hb dX11_told_40 (lv_at hl 0 rfl) ?_
      refine lv_iload_n hx hb dX11_told_42 rfl (lv_at hl 1 rfl) ?_
      obtain ⟨h7, hf⟩ := hs_ck hf
      obtain ⟨r9, g8, h10, hf⟩ := hs_bd_some hf
      refine hs_callr (va_runV (As := [.int v1]) (rest := []) ⟨hx, hb, hml, hown, hts⟩ (ctX0_method l B D E s0 v1 g4 _ h10) (cwV 1 hts (hs_gV (fun _ h => List.mem_cons_of_mem _ h) wq488 wq108 wq109 wq15 wq110) rfl rfl rfl (by decide +kernel) ⟨Nat.le_of_ble_eq_true rfl, Nat.le_of_ble_eq_true rfl⟩) (hs_preV (r := (RX0, TX0, 5)) hP hK h7 (by decide) rfl) rfl rfl hl.1 rfl (lv_room (Nat.le_of_ble_eq_true rfl)) dX11_told_43 ⟨(Nat.le_of_ble_eq_true rfl), (Nat.le_of_ble_eq_true rfl)⟩) hS (fun H locs hP hS => ?_)
      refine lv_astore (lv' := [(5, .ref (B + r9)), (4, .ref (B + s0)), (1, .int v1), (2, .int v2), (3, .int v3)]) hx hb dX11_told_46 hl (by decide) rfl (fun ls hl => ?_)
      refine lv_iload_n hx hb dX11_told_48 rfl (lv_at hl 4 rfl) ?_
      by_cases hc : v3 = (0 : Int32)
      · replace hf := hs_t hf hc
        refine lv_tableIn (off := 39) (tgt := 88) hx hb dX11_told_49 (by rw [hc]; decide +kernel) (by rw [hc]; decide +kernel) (by rw [hc]; first | done | decide +kernel) (by decide) ?_
        refine lv_aload hx hb dX11_told_88 (lv_at hl 0 rfl) ?_
        obtain ⟨h11, hf⟩ := hs_ck hf
        refine hs_geti (C := RX7) (T := TX7) (N := 11) hx hb hts (fun w h => List.mem_cons_of_mem _ (inlX7 w h)) hown hK.1 hP h11 (by decide) rfl 3 (by decide) (hts _ (List.mem_cons_of_mem _ wq635)) (fun _ h => h) rfl dX11_told_90 ?_
        exact hs_iret hx hb hr hlocks rfl hK hP hS hf dX11_told_93
      have hn0 := hc
      replace hf := hs_f hf hc
      clear hc
      by_cases hc : v3 = (1 : Int32)
      · replace hf := hs_t hf hc
        refine lv_tableIn (off := 45) (tgt := 94) hx hb dX11_told_49 (by rw [hc]; decide +kernel) (by rw [hc]; decide +kernel) (by rw [hc]; first | done | decide +kernel) (by decide) ?_
        refine lv_aload hx hb dX11_told_94 (lv_at hl 0 rfl) ?_
        obtain ⟨h12, hf⟩ := hs_ck hf
        refine hs_geti (C := RX7) (T := TX7) (N := 11) hx hb hts (fun w h => List.mem_cons_of_mem _ (inlX7 w h)) hown hK.1 hP h12 (by decide) rfl 7 (by decide) (hts _ (List.mem_cons_of_mem _ wq636)) (fun _ h => h) rfl dX11_told_96 ?_
        exact hs_iret hx hb hr hlocks rfl hK hP hS hf dX11_told_99
      have hn1 := hc
      replace hf := hs_f hf hc
      clear hc
      by_cases hc : v3 = (2 : Int32)
      · replace hf := hs_t hf hc
        refine lv_tableIn (off := 51) (tgt := 100) hx hb dX11_told_49 (by rw [hc]; decide +kernel) (by rw [hc]; decide +kernel) (by rw [hc]; first | done | decide +kernel) (by decide) ?_
        refine lv_aload hx hb dX11_told_100 (lv_at hl 0 rfl) ?_
        obtain ⟨h13, hf⟩ := hs_ck hf
        refine hs_geti (C := RX7) (T := TX7) (N := 11) hx hb hts (fun w h => List.mem_cons_of_mem _ (inlX7 w h)) hown hK.1 hP h13 (by decide) rfl 6 (by decide) (hts _ (List.mem_cons_of_mem _ wq637)) (fun _ h => h) rfl dX11_told_102 ?_
        exact hs_iret hx hb hr hlocks rfl hK hP hS hf dX11_told_105
      have hn2 := hc
      replace hf := hs_f hf hc
      clear hc
      by_cases hc : v3 = (3 : Int32)
      · replace hf := hs_t hf hc
        refine lv_tableIn (off := 57) (tgt := 106) hx hb dX11_told_49 (by rw [hc]; decide +kernel) (by rw [hc]; decide +kernel) (by rw [hc]; first | done | decide +kernel) (by decide) ?_
        refine lv_aload hx hb dX11_told_106 (lv_at hl 0 rfl) ?_
        obtain ⟨h14, hf⟩ := hs_ck hf
        refine hs_geti (C := RX7) (T := TX7) (N := 11) hx hb hts (fun w h => List.mem_cons_of_mem _ (inlX7 w h)) hown hK.1 hP h14 (by decide) rfl 8 (by decide) (hts _ (List.mem_cons_of_mem _ wq638)) (fun _ h => h) rfl dX11_told_108 ?_
        exact hs_iret hx hb hr hlocks rfl hK hP hS hf dX11_told_111
      have hn3 := hc
      replace hf := hs_f hf hc
      clear hc
      by_cases hc : v3 = (4 : Int32)
      · replace hf := hs_t hf hc
        refine lv_tableIn (off := 63) (tgt := 112) hx hb dX11_told_49 (by rw [hc]; decide +kernel) (by rw [hc]; decide +kernel) (by rw [hc]; first | done | decide +kernel) (by decide) ?_
        refine lv_aload hx hb dX11_told_112 (lv_at hl 0 rfl) ?_
        obtain ⟨h15, hf⟩ := hs_ck hf
        refine hs_geti (C := RX7) (T := TX7) (N := 11) hx hb hts (fun w h => List.mem_cons_of_mem _ (inlX7 w h)) hown hK.1 hP h15 (by decide) rfl 9 (by decide) (hts _ (List.mem_cons_of_mem _ wq639)) (fun _ h => h) rfl dX11_told_114 ?_
        exact hs_iret hx hb hr hlocks rfl hK hP hS hf dX11_told_117
      have hn4 := hc
      replace hf := hs_f hf hc
      clear hc
      by_cases hc : v3 = (5 : Int32)
      · replace hf := hs_t hf hc
        refine lv_tableIn (off := 69) (tgt := 118) hx hb dX11_told_49 (by rw [hc]; decide +kernel) (by rw [hc]; decide +kernel) (by rw [hc]; first | done | decide +kernel) (by decide) ?_
        refine lv_iload_n hx hb dX11_told_118 rfl (lv_at hl 3 rfl) ?_
        refine lv_if_eq (tgt := 126) hx hb dX11_told_119 (by decide) (fun hc => ?_) (fun hc => ?_)
        · replace hf := hs_t hf hc
          refine lv_aload hx hb dX11_told_126 (lv_at hl 0 rfl) ?_
          obtain ⟨h16, hf⟩ := hs_ck hf
          refine hs_geti (C := RX7) (T := TX7) (N := 11) hx hb hts (fun w h => List.mem_cons_of_mem _ (inlX7 w h)) hown hK.1 hP h16 (by decide) rfl 10 (by decide) (hts _ (List.mem_cons_of_mem _ wq640)) (fun _ h => h) rfl dX11_told_128 ?_
          exact hs_iret hx hb hr hlocks rfl hK hP hS hf dX11_told_131
        · replace hf := hs_f hf hc
          refine lv_iconst (v := -1) hx hb dX11_told_122 (by decide) ?_
          refine lv_goto (tgt := 131) hx hb dX11_told_123 (by decide) ?_
          exact hs_iret hx hb hr hlocks rfl hK hP hS hf dX11_told_131
      have hn5 := hc
      replace hf := hs_f hf hc
      clear hc
      refine lv_tableOut (tgt := 132) hx hb dX11_told_49 (by have := lv_neT (a := 0) hn0 rfl; have := lv_neT (a := 1) hn1 rfl; have := lv_neT (a := 2) hn2 rfl; have := lv_neT (a := 3) hn3 rfl; have := lv_neT (a := 4) hn4 rfl; have := lv_neT (a := 5) hn5 rfl; omega) (by decide) ?_
      refine lv_bipush (v := -3) hx hb dX11_told_132 (by decide) ?_
      exact hs_iret hx hb hr hlocks rfl hK hP hS hf dX11_told_134
    · replace hf := hs_t hf hc
      refine lv_bipush (v := -3) hx hb dX11_told_37 (by decide) ?_
      exact hs_iret hx hb hr hlocks rfl hK hP hS hf dX11_told_39
  · replace hf := hs_t hf hc
    refine lv_bipush (v := -2) hx hb dX11_told_25 (by decide) ?_
    exact hs_iret hx hb hr hlocks rfl hK hP hS hf dX11_told_27

set_option maxHeartbeats 4000000 in
set_option maxRecDepth 100000 in
theorem ctX11_told (l : Launch) (B : Nat) (D : va_G) (E : Nat → ClassId) (v0 : Nat) (v1 : Int32) (v2 : Int32) (v3 : Int32) (g : hs_S) (o : Int32 × hs_S) (hf : fX11_told v0 v1 v2 v3 g = some o) : Met l yX11_told wcX11_told rmX11_told (hs_Pc B D E g [.ref (B + v0), .int v1, .int v2, .int v3]) (hs_Qi B D E o) (0) (0) (hs_F B) := by
  refine Met.ofW (cc := cX11_told) (maxL := 6) (ret := (some .int)) (by decide) rfl ?_
  intro p e s m args below meth c s₁ Bd hml hv
  obtain ⟨rfl, hP, hK⟩ := hv
  have hx := Bd.exec
  have hb := Bd.bytes
  have hr := Bd.returns
  have hts := atoms_spec (ws := wcX11_told) Bd.pre
  have hown : s.vm.findClass RX11 = some m.cls := findClass_of_methodNamed Bd.named
  have hlocks := Bd.notSynchronized
  have hS : hs_Sx B s.heap s.heap [] := va_S.rf
  have hX : hs_cx cX11_told (some .int) 6 RX11 wcX11_told p s m (List.toArray [.ref (B + v0), .int v1, .int v2, .int v3]) meth c D E := ⟨hx, hb, hr, hml, hown, hts, hlocks, hK⟩
  have hl := lv_entry ([.ref (B + v0), .int v1, .int v2, .int v3]) (n := 6) (Nat.le_of_ble_eq_true rfl)
  rw [lg_entry_eq]
  generalize (lg_sl ([.ref (B + v0), .int v1, .int v2, .int v3]) ++ List.replicate (6 - (lg_sl ([.ref (B + v0), .int v1, .int v2, .int v3])).length) Slot.unset).toArray = ls at hl ⊢
  have hl : lv_has ls 6 [(0, .ref (B + v0)), (1, .int v1), (2, .int v2), (3, .int v3)] := hl
  have hP : hs_P B D E g s.heap := hP
  unfold fX11_told at hf
  refine lv_iload_n hx hb dX11_told_0 rfl (lv_at hl 2 rfl) ?_
  refine lv_if_eq (tgt := 11) hx hb dX11_told_1 (by decide) (fun hc => ?_) (fun hc => ?_)
  · replace hf := hs_t hf hc
    refine lv_aload_n hx hb dX11_told_11 rfl (lv_at hl 0 rfl) ?_
    obtain ⟨h1, hf⟩ := hs_ck hf
    obtain ⟨h2, hf⟩ := hs_ck hf
    refine hs_getr (C := RX11) (T := TX11) (N := 8) hx hb hts (fun w h => List.mem_cons_of_mem _ (inlX11 w h)) hown hK.1 hP h1 (by decide) rfl 1 (by decide) (hts _ (List.mem_cons_of_mem _ wq17)) (fun _ h => h) rfl h2 dX11_told_12 ?_
    exact wX11_told_j15 hX hf hP hS (lv_sub hl [1, 2, 3] rfl)
  · replace hf := hs_f hf hc
    refine lv_aload_n hx hb dX11_told_4 rfl (lv_at hl 0 rfl) ?_
    obtain ⟨h17, hf⟩ := hs_ck hf
    obtain ⟨h18, hf⟩ := hs_ck hf
    refine hs_getr (C := RX11) (T := TX11) (N := 8) hx hb hts (fun w h => List.mem_cons_of_mem _ (inlX11 w h)) hown hK.1 hP h17 (by decide) rfl 3 (by decide) (hts _ (List.mem_cons_of_mem _ wq19)) (fun _ h => h) rfl h18 dX11_told_5 ?_
    refine lv_goto (tgt := 15) hx hb dX11_told_8 (by decide) ?_
    exact wX11_told_j15 hX hf hP hS (lv_sub hl [1, 2, 3] rfl)

theorem dX11_byteAt_0 : decode cX11_byteAt 0 = .ok (.iload_n 2, 1) := by decide +kernel
theorem dX11_byteAt_1 : decode cX11_byteAt 1 = .ok (.ifCond .eq 10, 3) := by decide +kernel
theorem dX11_byteAt_4 : decode cX11_byteAt 4 = .ok (.aload_n 0, 1) := by decide +kernel
theorem dX11_byteAt_5 : decode cX11_byteAt 5 = .ok (.getfield 24, 3) := by decide +kernel
theorem dX11_byteAt_8 : decode cX11_byteAt 8 = .ok (.goto 7, 3) := by decide +kernel
theorem dX11_byteAt_11 : decode cX11_byteAt 11 = .ok (.aload_n 0, 1) := by decide +kernel
theorem dX11_byteAt_12 : decode cX11_byteAt 12 = .ok (.getfield 18, 3) := by decide +kernel
theorem dX11_byteAt_15 : decode cX11_byteAt 15 = .ok (.astore 4, 2) := by decide +kernel
theorem dX11_byteAt_17 : decode cX11_byteAt 17 = .ok (.aload 4, 2) := by decide +kernel
theorem dX11_byteAt_19 : decode cX11_byteAt 19 = .ok (.getfield 71, 3) := by decide +kernel
theorem dX11_byteAt_22 : decode cX11_byteAt 22 = .ok (.ifCond .ne 6, 3) := by decide +kernel
theorem dX11_byteAt_25 : decode cX11_byteAt 25 = .ok (.bipush (-2), 2) := by decide +kernel
theorem dX11_byteAt_27 : decode cX11_byteAt 27 = .ok (.ireturn, 1) := by decide +kernel
theorem dX11_byteAt_28 : decode cX11_byteAt 28 = .ok (.aload 4, 2) := by decide +kernel
theorem dX11_byteAt_30 : decode cX11_byteAt 30 = .ok (.iload_n 1, 1) := by decide +kernel
theorem dX11_byteAt_31 : decode cX11_byteAt 31 = .ok (.invokevirtual 103, 3) := by decide +kernel
theorem dX11_byteAt_34 : decode cX11_byteAt 34 = .ok (.ifCond .eq 20, 3) := by decide +kernel
theorem dX11_byteAt_37 : decode cX11_byteAt 37 = .ok (.iload_n 3, 1) := by decide +kernel
theorem dX11_byteAt_38 : decode cX11_byteAt 38 = .ok (.ifCond .lt 16, 3) := by decide +kernel
theorem dX11_byteAt_41 : decode cX11_byteAt 41 = .ok (.iload_n 3, 1) := by decide +kernel
theorem dX11_byteAt_42 : decode cX11_byteAt 42 = .ok (.aload 4, 2) := by decide +kernel
theorem dX11_byteAt_44 : decode cX11_byteAt 44 = .ok (.iload_n 1, 1) := by decide +kernel
theorem dX11_byteAt_45 : decode cX11_byteAt 45 = .ok (.invokevirtual 87, 3) := by decide +kernel
theorem dX11_byteAt_48 : decode cX11_byteAt 48 = .ok (.getfield 107, 3) := by decide +kernel
theorem dX11_byteAt_51 : decode cX11_byteAt 51 = .ok (.if_icmp .lt 6, 3) := by decide +kernel
theorem dX11_byteAt_54 : decode cX11_byteAt 54 = .ok (.bipush (-3), 2) := by decide +kernel
theorem dX11_byteAt_56 : decode cX11_byteAt 56 = .ok (.ireturn, 1) := by decide +kernel
theorem dX11_byteAt_57 : decode cX11_byteAt 57 = .ok (.aload 4, 2) := by decide +kernel
theorem dX11_byteAt_59 : decode cX11_byteAt 59 = .ok (.iload_n 1, 1) := by decide +kernel
theorem dX11_byteAt_60 : decode cX11_byteAt 60 = .ok (.invokevirtual 87, 3) := by decide +kernel
theorem dX11_byteAt_63 : decode cX11_byteAt 63 = .ok (.iload_n 3, 1) := by decide +kernel
theorem dX11_byteAt_64 : decode cX11_byteAt 64 = .ok (.invokevirtual 127, 3) := by decide +kernel
theorem dX11_byteAt_67 : decode cX11_byteAt 67 = .ok (.ireturn, 1) := by decide +kernel
abbrev wcX11_byteAt : List Cond := .code yX11_byteAt cX11_byteAt 5 (some .int) :: wsL_law
def jX11_byteAt_15 (v1 : Int32) (v3 : Int32) (s0 : Nat) (g : hs_S) : Option (Int32 × hs_S) :=
  if hs_kd g s0 = 0 then
  if (hs_I g s0 4) = 0 then (
    some ((-2 : Int32), g)
  ) else (
    hs_bd (fX0_has s0 v1 g) fun r5 g4 =>
    if r5 = 0 then (
      some ((-3 : Int32), g4)
    ) else (
      if v3 < 0 then (
        some ((-3 : Int32), g4)
      ) else (
        if hs_kd g4 s0 = 0 then
        hs_bd (fX0_method s0 v1 g4) fun r9 g8 =>
        if hs_kd g8 r9 = 6 then
        if v3 < (hs_I g8 r9 3) then (
          if hs_kd g8 s0 = 0 then
          hs_bd (fX0_method s0 v1 g8) fun r14 g13 =>
          if hs_kd g13 r14 = 6 then
          hs_bd ((none : Option (Int32 × hs_S))) fun r18 g17 =>
          none
          else none else none
        ) else (
          some ((-3 : Int32), g8)
        )
        else none else none
      )
    )
  )
  else none
def fX11_byteAt (v0 : Nat) (v1 : Int32) (v2 : Int32) (v3 : Int32) (g : hs_S) : Option (Int32 × hs_S) :=
  if v2 = 0 then (
    if hs_kd g v0 = 9 then
    if ¬ (hs_R g v0 1) = 0 then
    jX11_byteAt_15 v1 v3 ((hs_R g v0 1) - 1) g
    else none else none
  ) else (
    if hs_kd g v0 = 9 then
    if ¬ (hs_R g v0 3) = 0 then
    jX11_byteAt_15 v1 v3 ((hs_R g v0 3) - 1) g
    else none else none
  )
abbrev rmX11_byteAt : Room := { frames := 2, cells := 0, slots := 0, locals := 42 }
set_option maxHeartbeats 4000000 in
set_option maxRecDepth 100000 in
theorem wX11_byteAt_j15 {p : Program} {l : Launch} {e : Env} {s : State} {m : MethodId} {args : Array Value} {below : List Frame} {meth : Method} {c : Code} {B : Nat} {D : va_G} {E : Nat → ClassId} (hX : hs_cx cX11_byteAt (some .int) 5 RX11 wcX11_byteAt p s m args meth c D E) {o : Int32 × hs_S}  {v1 : Int32} {v3 : Int32} {s0 : Nat}   {g : hs_S} {H : Heap} {locs : List Loc} {ls : Array Slot} (hf : jX11_byteAt_15 v1 v3 s0 g = some o) (hP : hs_P B D E g H) (hS : hs_Sx B s.heap H locs) (hl : lv_has ls 5 [(1, .int v1), (3, .int v3)]) : W p l e rmX11_byteAt s m args below meth c H locs 0 0 (MQ below (hs_Qi B D E o) args s 0 0 (hs_F B)) (F0 m 15 ls [.ref (B + s0)]) := by
  obtain ⟨hx, hb, hr, hml, hown, hts, hlocks, hK⟩ := id hX
  unfold jX11_byteAt_15 at hf
  refine lv_astore (lv' := [(4, .ref (B + s0)), (1, .int v1), (3, .int v3)]) hx hb dX11_byteAt_15 hl (by decide) rfl (fun ls hl => ?_)
  refine lv_aload hx hb dX11_byteAt_17 (lv_at hl 0 rfl) ?_
  obtain ⟨h3, hf⟩ := hs_ck hf
  refine hs_geti (C := RX0) (T := TX0) (N := 5) hx hb hts (fun w h => List.mem_cons_of_mem _ (inlX0 w h)) hown hK.1 hP h3 (by decide) rfl 4 (by decide) (hts _ (List.mem_cons_of_mem _ wq181)) (fun _ h => h) rfl dX11_byteAt_19 ?_
  refine lv_if_ne (tgt := 28) hx hb dX11_byteAt_22 (by decide) (fun hc => ?_) (fun hc => ?_)
  · replace hf := hs_f hf hc
    refine lv_aload hx hb dX11_byteAt_28 (lv_at hl 0 rfl) ?_
    refine lv_iload_n hx hb dX11_byteAt_30 rfl (lv_at hl 1 rfl) ?_
    obtain ⟨r5, g4, h6, hf⟩ := hs_bd_some hf
    refine hs_calli (va_runV (As := [.int v1]) (rest := []) ⟨hx, hb, hml, hown, hts⟩ (ctX0_has l B D E s0 v1 g _ h6) (cwV 1 hts (hs_gV (fun _ h => List.mem_cons_of_mem _ h) wq641 wq275 wq276 wq15 wq277) rfl rfl rfl (by decide +kernel) ⟨Nat.le_of_ble_eq_true rfl, Nat.le_of_ble_eq_true rfl⟩) (hs_preV (r := (RX0, TX0, 5)) hP hK h3 (by decide) rfl) rfl rfl hl.1 rfl (lv_room (Nat.le_of_ble_eq_true rfl)) dX11_byteAt_31 ⟨(Nat.le_of_ble_eq_true rfl), (Nat.le_of_ble_eq_true rfl)⟩) hS (fun H locs hP hS => ?_)
    refine lv_if_eq (tgt := 54) hx hb dX11_byteAt_34 (by decide) (fun hc => ?_) (fun hc => ?_)
    · replace hf := hs_t hf hc
      refine lv_bipush (v := -3) hx hb dX11_byteAt_54 (by decide) ?_
      exact hs_iret hx hb hr hlocks rfl hK hP hS hf dX11_byteAt_56
    · replace hf := hs_f hf hc
      refine lv_iload_n hx hb dX11_byteAt_37 rfl (lv_at hl 2 rfl) ?_
      refine lv_if_lt (tgt := 54) hx hb dX11_byteAt_38 (by decide) (fun hc => ?_) (fun hc => ?_)
      · replace hf := hs_t hf hc
        refine lv_bipush (v := -3) hx hb dX11_byteAt_54 (by decide) ?_
        exact hs_iret hx hb hr hlocks rfl hK hP hS hf dX11_byteAt_56
      · replace hf := hs_f hf hc
        refine lv_iload_n hx hb dX11_byteAt_41 rfl (lv_at hl 2 rfl) ?_
        refine lv_aload hx hb dX11_byteAt_42 (lv_at hl 0 rfl) ?_
        refine lv_iload_n hx hb dX11_byteAt_44 rfl (lv_at hl 1 rfl) ?_
        obtain ⟨h7, hf⟩ := hs_ck hf
        obtain ⟨r9, g8, h10, hf⟩ := hs_bd_some hf
        refine hs_callr (va_runV (As := [.int v1]) (rest := [.int v3]) ⟨hx, hb, hml, hown, hts⟩ (ctX0_method l B D E s0 v1 g4 _ h10) (cwV 1 hts (hs_gV (fun _ h => List.mem_cons_of_mem _ h) wq488 wq108 wq109 wq15 wq110) rfl rfl rfl (by decide +kernel) ⟨Nat.le_of_ble_eq_true rfl, Nat.le_of_ble_eq_true rfl⟩) (hs_preV (r := (RX0, TX0, 5)) hP hK h7 (by decide) rfl) rfl rfl hl.1 rfl (lv_room (Nat.le_of_ble_eq_true rfl)) dX11_byteAt_45 ⟨(Nat.le_of_ble_eq_true rfl), (Nat.le_of_ble_eq_true rfl)⟩) hS (fun H locs hP hS => ?_)
        obtain ⟨h11, hf⟩ := hs_ck hf
        refine hs_geti (C := RX7) (T := TX7) (N := 11) hx hb hts (fun w h => List.mem_cons_of_mem _ (inlX7 w h)) hown hK.1 hP h11 (by decide) rfl 3 (by decide) (hts _ (List.mem_cons_of_mem _ wq635)) (fun _ h => h) rfl dX11_byteAt_48 ?_
        refine lv_icmp_lt (tgt := 57) hx hb dX11_byteAt_51 (by decide) (fun hc => ?_) (fun hc => ?_)
        · replace hf := hs_t hf hc
          refine lv_aload hx hb dX11_byteAt_57 (lv_at hl 0 rfl) ?_
          refine lv_iload_n hx hb dX11_byteAt_59 rfl (lv_at hl 1 rfl) ?_
          obtain ⟨h12, hf⟩ := hs_ck hf
          obtain ⟨r14, g13, h15, hf⟩ := hs_bd_some hf
          refine hs_callr (va_runV (As := [.int v1]) (rest := []) ⟨hx, hb, hml, hown, hts⟩ (ctX0_method l B D E s0 v1 g8 _ h15) (cwV 1 hts (hs_gV (fun _ h => List.mem_cons_of_mem _ h) wq488 wq108 wq109 wq15 wq110) rfl rfl rfl (by decide +kernel) ⟨Nat.le_of_ble_eq_true rfl, Nat.le_of_ble_eq_true rfl⟩) (hs_preV (r := (RX0, TX0, 5)) hP hK h12 (by decide) rfl) rfl rfl hl.1 rfl (lv_room (Nat.le_of_ble_eq_true rfl)) dX11_byteAt_60 ⟨(Nat.le_of_ble_eq_true rfl), (Nat.le_of_ble_eq_true rfl)⟩) hS (fun H locs hP hS => ?_)
          refine lv_iload_n hx hb dX11_byteAt_63 rfl (lv_at hl 2 rfl) ?_
          obtain ⟨h16, hf⟩ := hs_ck hf
          obtain ⟨r18, g17, h19, hf⟩ := hs_bd_some hf
          cases h19
        · replace hf := hs_f hf hc
          refine lv_bipush (v := -3) hx hb dX11_byteAt_54 (by decide) ?_
          exact hs_iret hx hb hr hlocks rfl hK hP hS hf dX11_byteAt_56
  · replace hf := hs_t hf hc
    refine lv_bipush (v := -2) hx hb dX11_byteAt_25 (by decide) ?_
    exact hs_iret hx hb hr hlocks rfl hK hP hS hf dX11_byteAt_27

set_option maxHeartbeats 4000000 in
set_option maxRecDepth 100000 in
theorem ctX11_byteAt (l : Launch) (B : Nat) (D : va_G) (E : Nat → ClassId) (v0 : Nat) (v1 : Int32) (v2 : Int32) (v3 : Int32) (g : hs_S) (o : Int32 × hs_S) (hf : fX11_byteAt v0 v1 v2 v3 g = some o) : Met l yX11_byteAt wcX11_byteAt rmX11_byteAt (hs_Pc B D E g [.ref (B + v0), .int v1, .int v2, .int v3]) (hs_Qi B D E o) (0) (0) (hs_F B) := by
  refine Met.ofW (cc := cX11_byteAt) (maxL := 5) (ret := (some .int)) (by decide) rfl ?_
  intro p e s m args below meth c s₁ Bd hml hv
  obtain ⟨rfl, hP, hK⟩ := hv
  have hx := Bd.exec
  have hb := Bd.bytes
  have hr := Bd.returns
  have hts := atoms_spec (ws := wcX11_byteAt) Bd.pre
  have hown : s.vm.findClass RX11 = some m.cls := findClass_of_methodNamed Bd.named
  have hlocks := Bd.notSynchronized
  have hS : hs_Sx B s.heap s.heap [] := va_S.rf
  have hX : hs_cx cX11_byteAt (some .int) 5 RX11 wcX11_byteAt p s m (List.toArray [.ref (B + v0), .int v1, .int v2, .int v3]) meth c D E := ⟨hx, hb, hr, hml, hown, hts, hlocks, hK⟩
  have hl := lv_entry ([.ref (B + v0), .int v1, .int v2, .int v3]) (n := 5) (Nat.le_of_ble_eq_true rfl)
  rw [lg_entry_eq]
  generalize (lg_sl ([.ref (B + v0), .int v1, .int v2, .int v3]) ++ List.replicate (5 - (lg_sl ([.ref (B + v0), .int v1, .int v2, .int v3])).length) Slot.unset).toArray = ls at hl ⊢
  have hl : lv_has ls 5 [(0, .ref (B + v0)), (1, .int v1), (2, .int v2), (3, .int v3)] := hl
  have hP : hs_P B D E g s.heap := hP
  unfold fX11_byteAt at hf
  refine lv_iload_n hx hb dX11_byteAt_0 rfl (lv_at hl 2 rfl) ?_
  refine lv_if_eq (tgt := 11) hx hb dX11_byteAt_1 (by decide) (fun hc => ?_) (fun hc => ?_)
  · replace hf := hs_t hf hc
    refine lv_aload_n hx hb dX11_byteAt_11 rfl (lv_at hl 0 rfl) ?_
    obtain ⟨h1, hf⟩ := hs_ck hf
    obtain ⟨h2, hf⟩ := hs_ck hf
    refine hs_getr (C := RX11) (T := TX11) (N := 8) hx hb hts (fun w h => List.mem_cons_of_mem _ (inlX11 w h)) hown hK.1 hP h1 (by decide) rfl 1 (by decide) (hts _ (List.mem_cons_of_mem _ wq17)) (fun _ h => h) rfl h2 dX11_byteAt_12 ?_
    exact wX11_byteAt_j15 hX hf hP hS (lv_sub hl [1, 3] rfl)
  · replace hf := hs_f hf hc
    refine lv_aload_n hx hb dX11_byteAt_4 rfl (lv_at hl 0 rfl) ?_
    obtain ⟨h20, hf⟩ := hs_ck hf
    obtain ⟨h21, hf⟩ := hs_ck hf
    refine hs_getr (C := RX11) (T := TX11) (N := 8) hx hb hts (fun w h => List.mem_cons_of_mem _ (inlX11 w h)) hown hK.1 hP h20 (by decide) rfl 3 (by decide) (hts _ (List.mem_cons_of_mem _ wq19)) (fun _ h => h) rfl h21 dX11_byteAt_5 ?_
    refine lv_goto (tgt := 15) hx hb dX11_byteAt_8 (by decide) ?_
    exact wX11_byteAt_j15 hX hf hP hS (lv_sub hl [1, 3] rfl)

theorem dX11_handler_0 : decode cX11_handler 0 = .ok (.iload_n 2, 1) := by decide +kernel
theorem dX11_handler_1 : decode cX11_handler 1 = .ok (.ifCond .eq 10, 3) := by decide +kernel
theorem dX11_handler_4 : decode cX11_handler 4 = .ok (.aload_n 0, 1) := by decide +kernel
theorem dX11_handler_5 : decode cX11_handler 5 = .ok (.getfield 24, 3) := by decide +kernel
theorem dX11_handler_8 : decode cX11_handler 8 = .ok (.goto 7, 3) := by decide +kernel
theorem dX11_handler_11 : decode cX11_handler 11 = .ok (.aload_n 0, 1) := by decide +kernel
theorem dX11_handler_12 : decode cX11_handler 12 = .ok (.getfield 18, 3) := by decide +kernel
theorem dX11_handler_15 : decode cX11_handler 15 = .ok (.astore 5, 2) := by decide +kernel
theorem dX11_handler_17 : decode cX11_handler 17 = .ok (.aload 5, 2) := by decide +kernel
theorem dX11_handler_19 : decode cX11_handler 19 = .ok (.getfield 71, 3) := by decide +kernel
theorem dX11_handler_22 : decode cX11_handler 22 = .ok (.ifCond .ne 6, 3) := by decide +kernel
theorem dX11_handler_25 : decode cX11_handler 25 = .ok (.bipush (-2), 2) := by decide +kernel
theorem dX11_handler_27 : decode cX11_handler 27 = .ok (.ireturn, 1) := by decide +kernel
theorem dX11_handler_28 : decode cX11_handler 28 = .ok (.aload 5, 2) := by decide +kernel
theorem dX11_handler_30 : decode cX11_handler 30 = .ok (.iload_n 1, 1) := by decide +kernel
theorem dX11_handler_31 : decode cX11_handler 31 = .ok (.invokevirtual 103, 3) := by decide +kernel
theorem dX11_handler_34 : decode cX11_handler 34 = .ok (.ifCond .eq 20, 3) := by decide +kernel
theorem dX11_handler_37 : decode cX11_handler 37 = .ok (.iload_n 3, 1) := by decide +kernel
theorem dX11_handler_38 : decode cX11_handler 38 = .ok (.ifCond .lt 16, 3) := by decide +kernel
theorem dX11_handler_41 : decode cX11_handler 41 = .ok (.iload_n 3, 1) := by decide +kernel
theorem dX11_handler_42 : decode cX11_handler 42 = .ok (.aload 5, 2) := by decide +kernel
theorem dX11_handler_44 : decode cX11_handler 44 = .ok (.iload_n 1, 1) := by decide +kernel
theorem dX11_handler_45 : decode cX11_handler 45 = .ok (.invokevirtual 87, 3) := by decide +kernel
theorem dX11_handler_48 : decode cX11_handler 48 = .ok (.getfield 115, 3) := by decide +kernel
theorem dX11_handler_51 : decode cX11_handler 51 = .ok (.if_icmp .lt 6, 3) := by decide +kernel
theorem dX11_handler_54 : decode cX11_handler 54 = .ok (.bipush (-3), 2) := by decide +kernel
theorem dX11_handler_56 : decode cX11_handler 56 = .ok (.ireturn, 1) := by decide +kernel
theorem dX11_handler_57 : decode cX11_handler 57 = .ok (.iload 4, 2) := by decide +kernel
theorem dX11_handler_59 : decode cX11_handler 59 = .ok (.ifCond .lt 9, 3) := by decide +kernel
theorem dX11_handler_62 : decode cX11_handler 62 = .ok (.iload 4, 2) := by decide +kernel
theorem dX11_handler_64 : decode cX11_handler 64 = .ok (.iconst 4, 1) := by decide +kernel
theorem dX11_handler_65 : decode cX11_handler 65 = .ok (.if_icmp .lt 6, 3) := by decide +kernel
theorem dX11_handler_68 : decode cX11_handler 68 = .ok (.bipush (-3), 2) := by decide +kernel
theorem dX11_handler_70 : decode cX11_handler 70 = .ok (.ireturn, 1) := by decide +kernel
theorem dX11_handler_71 : decode cX11_handler 71 = .ok (.aload 5, 2) := by decide +kernel
theorem dX11_handler_73 : decode cX11_handler 73 = .ok (.iload_n 1, 1) := by decide +kernel
theorem dX11_handler_74 : decode cX11_handler 74 = .ok (.invokevirtual 87, 3) := by decide +kernel
theorem dX11_handler_77 : decode cX11_handler 77 = .ok (.iload_n 3, 1) := by decide +kernel
theorem dX11_handler_78 : decode cX11_handler 78 = .ok (.iload 4, 2) := by decide +kernel
theorem dX11_handler_80 : decode cX11_handler 80 = .ok (.invokevirtual 130, 3) := by decide +kernel
theorem dX11_handler_83 : decode cX11_handler 83 = .ok (.ireturn, 1) := by decide +kernel
abbrev wcX11_handler : List Cond := .code yX11_handler cX11_handler 6 (some .int) :: wsL_law
def jX11_handler_15 (v1 : Int32) (v3 : Int32) (v4 : Int32) (s0 : Nat) (g : hs_S) : Option (Int32 × hs_S) :=
  if hs_kd g s0 = 0 then
  if (hs_I g s0 4) = 0 then (
    some ((-2 : Int32), g)
  ) else (
    hs_bd (fX0_has s0 v1 g) fun r5 g4 =>
    if r5 = 0 then (
      some ((-3 : Int32), g4)
    ) else (
      if v3 < 0 then (
        some ((-3 : Int32), g4)
      ) else (
        if hs_kd g4 s0 = 0 then
        hs_bd (fX0_method s0 v1 g4) fun r9 g8 =>
        if hs_kd g8 r9 = 6 then
        if v3 < (hs_I g8 r9 6) then (
          if v4 < 0 then (
            some ((-3 : Int32), g8)
          ) else (
            if v4 < (4 : Int32) then (
              if hs_kd g8 s0 = 0 then
              hs_bd (fX0_method s0 v1 g8) fun r14 g13 =>
              if hs_kd g13 r14 = 6 then
              hs_bd ((none : Option (Int32 × hs_S))) fun r18 g17 =>
              none
              else none else none
            ) else (
              some ((-3 : Int32), g8)
            )
          )
        ) else (
          some ((-3 : Int32), g8)
        )
        else none else none
      )
    )
  )
  else none
def fX11_handler (v0 : Nat) (v1 : Int32) (v2 : Int32) (v3 : Int32) (v4 : Int32) (g : hs_S) : Option (Int32 × hs_S) :=
  if v2 = 0 then (
    if hs_kd g v0 = 9 then
    if ¬ (hs_R g v0 1) = 0 then
    jX11_handler_15 v1 v3 v4 ((hs_R g v0 1) - 1) g
    else none else none
  ) else (
    if hs_kd g v0 = 9 then
    if ¬ (hs_R g v0 3) = 0 then
    jX11_handler_15 v1 v3 v4 ((hs_R g v0 3) - 1) g
    else none else none
  )
abbrev rmX11_handler : Room := { frames := 2, cells := 0, slots := 0, locals := 43 }
set_option maxHeartbeats 4000000 in
set_option maxRecDepth 100000 in
theorem wX11_handler_j15 {p : Program} {l : Launch} {e : Env} {s : State} {m : MethodId} {args : Array Value} {below : List Frame} {meth : Method} {c : Code} {B : Nat} {D : va_G} {E : Nat → ClassId} (hX : hs_cx cX11_handler (some .int) 6 RX11 wcX11_handler p s m args meth c D E) {o : Int32 × hs_S}  {v1 : Int32} {v3 : Int32} {v4 : Int32} {s0 : Nat}   {g : hs_S} {H : Heap} {locs : List Loc} {ls : Array Slot} (hf : jX11_handler_15 v1 v3 v4 s0 g = some o) (hP : hs_P B D E g H) (hS : hs_Sx B s.heap H locs) (hl : lv_has ls 6 [(1, .int v1), (3, .int v3), (4, .int v4)]) : W p l e rmX11_handler s m args below meth c H locs 0 0 (MQ below (hs_Qi B D E o) args s 0 0 (hs_F B)) (F0 m 15 ls [.ref (B + s0)]) := by
  obtain ⟨hx, hb, hr, hml, hown, hts, hlocks, hK⟩ := id hX
  unfold jX11_handler_15 at hf
  refine lv_astore (lv' := [(5, .ref (B + s0)), (1, .int v1), (3, .int v3), (4, .int v4)]) hx hb dX11_handler_15 hl (by decide) rfl (fun ls hl => ?_)
  refine lv_aload hx hb dX11_handler_17 (lv_at hl 0 rfl) ?_
  obtain ⟨h3, hf⟩ := hs_ck hf
  refine hs_geti (C := RX0) (T := TX0) (N := 5) hx hb hts (fun w h => List.mem_cons_of_mem _ (inlX0 w h)) hown hK.1 hP h3 (by decide) rfl 4 (by decide) (hts _ (List.mem_cons_of_mem _ wq181)) (fun _ h => h) rfl dX11_handler_19 ?_
  refine lv_if_ne (tgt := 28) hx hb dX11_handler_22 (by decide) (fun hc => ?_) (fun hc => ?_)
  · replace hf := hs_f hf hc
    refine lv_aload hx hb dX11_handler_28 (lv_at hl 0 rfl) ?_
    refine lv_iload_n hx hb dX11_handler_30 rfl (lv_at hl 1 rfl) ?_
    obtain ⟨r5, g4, h6, hf⟩ := hs_bd_some hf
    refine hs_calli (va_runV (As := [.int v1]) (rest := []) ⟨hx, hb, hml, hown, hts⟩ (ctX0_has l B D E s0 v1 g _ h6) (cwV 1 hts (hs_gV (fun _ h => List.mem_cons_of_mem _ h) wq641 wq275 wq276 wq15 wq277) rfl rfl rfl (by decide +kernel) ⟨Nat.le_of_ble_eq_true rfl, Nat.le_of_ble_eq_true rfl⟩) (hs_preV (r := (RX0, TX0, 5)) hP hK h3 (by decide) rfl) rfl rfl hl.1 rfl (lv_room (Nat.le_of_ble_eq_true rfl)) dX11_handler_31 ⟨(Nat.le_of_ble_eq_true rfl), (Nat.le_of_ble_eq_true rfl)⟩) hS (fun H locs hP hS => ?_)
    refine lv_if_eq (tgt := 54) hx hb dX11_handler_34 (by decide) (fun hc => ?_) (fun hc => ?_)
    · replace hf := hs_t hf hc
      refine lv_bipush (v := -3) hx hb dX11_handler_54 (by decide) ?_
      exact hs_iret hx hb hr hlocks rfl hK hP hS hf dX11_handler_56
    · replace hf := hs_f hf hc
      refine lv_iload_n hx hb dX11_handler_37 rfl (lv_at hl 2 rfl) ?_
      refine lv_if_lt (tgt := 54) hx hb dX11_handler_38 (by decide) (fun hc => ?_) (fun hc => ?_)
      · replace hf := hs_t hf hc
        refine lv_bipush (v := -3) hx hb dX11_handler_54 (by decide) ?_
        exact hs_iret hx hb hr hlocks rfl hK hP hS hf dX11_handler_56
      · replace hf := hs_f hf hc
        refine lv_iload_n hx hb dX11_handler_41 rfl (lv_at hl 2 rfl) ?_
        refine lv_aload hx hb dX11_handler_42 (lv_at hl 0 rfl) ?_
        refine lv_iload_n hx hb dX11_handler_44 rfl (lv_at hl 1 rfl) ?_
        obtain ⟨h7, hf⟩ := hs_ck hf
        obtain ⟨r9, g8, h10, hf⟩ := hs_bd_some hf
        refine hs_callr (va_runV (As := [.int v1]) (rest := [.int v3]) ⟨hx, hb, hml, hown, hts⟩ (ctX0_method l B D E s0 v1 g4 _ h10) (cwV 1 hts (hs_gV (fun _ h => List.mem_cons_of_mem _ h) wq488 wq108 wq109 wq15 wq110) rfl rfl rfl (by decide +kernel) ⟨Nat.le_of_ble_eq_true rfl, Nat.le_of_ble_eq_true rfl⟩) (hs_preV (r := (RX0, TX0, 5)) hP hK h7 (by decide) rfl) rfl rfl hl.1 rfl (lv_room (Nat.le_of_ble_eq_true rfl)) dX11_handler_45 ⟨(Nat.le_of_ble_eq_true rfl), (Nat.le_of_ble_eq_true rfl)⟩) hS (fun H locs hP hS => ?_)
        obtain ⟨h11, hf⟩ := hs_ck hf
        refine hs_geti (C := RX7) (T := TX7) (N := 11) hx hb hts (fun w h => List.mem_cons_of_mem _ (inlX7 w h)) hown hK.1 hP h11 (by decide) rfl 6 (by decide) (hts _ (List.mem_cons_of_mem _ wq637)) (fun _ h => h) rfl dX11_handler_48 ?_
        refine lv_icmp_lt (tgt := 57) hx hb dX11_handler_51 (by decide) (fun hc => ?_) (fun hc => ?_)
        · replace hf := hs_t hf hc
          refine lv_iload hx hb dX11_handler_57 (lv_at hl 3 rfl) ?_
          refine lv_if_lt (tgt := 68) hx hb dX11_handler_59 (by decide) (fun hc => ?_) (fun hc => ?_)
          · replace hf := hs_t hf hc
            refine lv_bipush (v := -3) hx hb dX11_handler_68 (by decide) ?_
            exact hs_iret hx hb hr hlocks rfl hK hP hS hf dX11_handler_70
          · replace hf := hs_f hf hc
            refine lv_iload hx hb dX11_handler_62 (lv_at hl 3 rfl) ?_
            refine lv_iconst (v := 4) hx hb dX11_handler_64 (by decide) ?_
            refine lv_icmp_lt (tgt := 71) hx hb dX11_handler_65 (by decide) (fun hc => ?_) (fun hc => ?_)
            · replace hf := hs_t hf hc
              refine lv_aload hx hb dX11_handler_71 (lv_at hl 0 rfl) ?_
              refine lv_iload_n hx hb dX11_handler_73 rfl (lv_at hl 1 rfl) ?_
              obtain ⟨h12, hf⟩ := hs_ck hf
              obtain ⟨r14, g13, h15, hf⟩ := hs_bd_some hf
              refine hs_callr (va_runV (As := [.int v1]) (rest := []) ⟨hx, hb, hml, hown, hts⟩ (ctX0_method l B D E s0 v1 g8 _ h15) (cwV 1 hts (hs_gV (fun _ h => List.mem_cons_of_mem _ h) wq488 wq108 wq109 wq15 wq110) rfl rfl rfl (by decide +kernel) ⟨Nat.le_of_ble_eq_true rfl, Nat.le_of_ble_eq_true rfl⟩) (hs_preV (r := (RX0, TX0, 5)) hP hK h12 (by decide) rfl) rfl rfl hl.1 rfl (lv_room (Nat.le_of_ble_eq_true rfl)) dX11_handler_74 ⟨(Nat.le_of_ble_eq_true rfl), (Nat.le_of_ble_eq_true rfl)⟩) hS (fun H locs hP hS => ?_)
              refine lv_iload_n hx hb dX11_handler_77 rfl (lv_at hl 2 rfl) ?_
              refine lv_iload hx hb dX11_handler_78 (lv_at hl 3 rfl) ?_
              obtain ⟨h16, hf⟩ := hs_ck hf
              obtain ⟨r18, g17, h19, hf⟩ := hs_bd_some hf
              cases h19
            · replace hf := hs_f hf hc
              refine lv_bipush (v := -3) hx hb dX11_handler_68 (by decide) ?_
              exact hs_iret hx hb hr hlocks rfl hK hP hS hf dX11_handler_70
        · replace hf := hs_f hf hc
          refine lv_bipush (v := -3) hx hb dX11_handler_54 (by decide) ?_
          exact hs_iret hx hb hr hlocks rfl hK hP hS hf dX11_handler_56
  · replace hf := hs_t hf hc
    refine lv_bipush (v := -2) hx hb dX11_handler_25 (by decide) ?_
    exact hs_iret hx hb hr hlocks rfl hK hP hS hf dX11_handler_27

set_option maxHeartbeats 4000000 in
set_option maxRecDepth 100000 in
theorem ctX11_handler (l : Launch) (B : Nat) (D : va_G) (E : Nat → ClassId) (v0 : Nat) (v1 : Int32) (v2 : Int32) (v3 : Int32) (v4 : Int32) (g : hs_S) (o : Int32 × hs_S) (hf : fX11_handler v0 v1 v2 v3 v4 g = some o) : Met l yX11_handler wcX11_handler rmX11_handler (hs_Pc B D E g [.ref (B + v0), .int v1, .int v2, .int v3, .int v4]) (hs_Qi B D E o) (0) (0) (hs_F B) := by
  refine Met.ofW (cc := cX11_handler) (maxL := 6) (ret := (some .int)) (by decide) rfl ?_
  intro p e s m args below meth c s₁ Bd hml hv
  obtain ⟨rfl, hP, hK⟩ := hv
  have hx := Bd.exec
  have hb := Bd.bytes
  have hr := Bd.returns
  have hts := atoms_spec (ws := wcX11_handler) Bd.pre
  have hown : s.vm.findClass RX11 = some m.cls := findClass_of_methodNamed Bd.named
  have hlocks := Bd.notSynchronized
  have hS : hs_Sx B s.heap s.heap [] := va_S.rf
  have hX : hs_cx cX11_handler (some .int) 6 RX11 wcX11_handler p s m (List.toArray [.ref (B + v0), .int v1, .int v2, .int v3, .int v4]) meth c D E := ⟨hx, hb, hr, hml, hown, hts, hlocks, hK⟩
  have hl := lv_entry ([.ref (B + v0), .int v1, .int v2, .int v3, .int v4]) (n := 6) (Nat.le_of_ble_eq_true rfl)
  rw [lg_entry_eq]
  generalize (lg_sl ([.ref (B + v0), .int v1, .int v2, .int v3, .int v4]) ++ List.replicate (6 - (lg_sl ([.ref (B + v0), .int v1, .int v2, .int v3, .int v4])).length) Slot.unset).toArray = ls at hl ⊢
  have hl : lv_has ls 6 [(0, .ref (B + v0)), (1, .int v1), (2, .int v2), (3, .int v3), (4, .int v4)] := hl
  have hP : hs_P B D E g s.heap := hP
  unfold fX11_handler at hf
  refine lv_iload_n hx hb dX11_handler_0 rfl (lv_at hl 2 rfl) ?_
  refine lv_if_eq (tgt := 11) hx hb dX11_handler_1 (by decide) (fun hc => ?_) (fun hc => ?_)
  · replace hf := hs_t hf hc
    refine lv_aload_n hx hb dX11_handler_11 rfl (lv_at hl 0 rfl) ?_
    obtain ⟨h1, hf⟩ := hs_ck hf
    obtain ⟨h2, hf⟩ := hs_ck hf
    refine hs_getr (C := RX11) (T := TX11) (N := 8) hx hb hts (fun w h => List.mem_cons_of_mem _ (inlX11 w h)) hown hK.1 hP h1 (by decide) rfl 1 (by decide) (hts _ (List.mem_cons_of_mem _ wq17)) (fun _ h => h) rfl h2 dX11_handler_12 ?_
    exact wX11_handler_j15 hX hf hP hS (lv_sub hl [1, 3, 4] rfl)
  · replace hf := hs_f hf hc
    refine lv_aload_n hx hb dX11_handler_4 rfl (lv_at hl 0 rfl) ?_
    obtain ⟨h20, hf⟩ := hs_ck hf
    obtain ⟨h21, hf⟩ := hs_ck hf
    refine hs_getr (C := RX11) (T := TX11) (N := 8) hx hb hts (fun w h => List.mem_cons_of_mem _ (inlX11 w h)) hown hK.1 hP h20 (by decide) rfl 3 (by decide) (hts _ (List.mem_cons_of_mem _ wq19)) (fun _ h => h) rfl h21 dX11_handler_5 ?_
    refine lv_goto (tgt := 15) hx hb dX11_handler_8 (by decide) ?_
    exact wX11_handler_j15 hX hf hP hS (lv_sub hl [1, 3, 4] rfl)

theorem dX11_block_0 : decode cX11_block 0 = .ok (.aload_n 0, 1) := by decide +kernel
theorem dX11_block_1 : decode cX11_block 1 = .ok (.getfield 18, 3) := by decide +kernel
theorem dX11_block_4 : decode cX11_block 4 = .ok (.getfield 71, 3) := by decide +kernel
theorem dX11_block_7 : decode cX11_block 7 = .ok (.ifCond .ne 6, 3) := by decide +kernel
theorem dX11_block_10 : decode cX11_block 10 = .ok (.bipush (-2), 2) := by decide +kernel
theorem dX11_block_12 : decode cX11_block 12 = .ok (.ireturn, 1) := by decide +kernel
theorem dX11_block_13 : decode cX11_block 13 = .ok (.aload_n 0, 1) := by decide +kernel
theorem dX11_block_14 : decode cX11_block 14 = .ok (.getfield 18, 3) := by decide +kernel
theorem dX11_block_17 : decode cX11_block 17 = .ok (.iload_n 1, 1) := by decide +kernel
theorem dX11_block_18 : decode cX11_block 18 = .ok (.invokevirtual 103, 3) := by decide +kernel
theorem dX11_block_21 : decode cX11_block 21 = .ok (.ifCond .eq 31, 3) := by decide +kernel
theorem dX11_block_24 : decode cX11_block 24 = .ok (.iload_n 2, 1) := by decide +kernel
theorem dX11_block_25 : decode cX11_block 25 = .ok (.ifCond .lt 27, 3) := by decide +kernel
theorem dX11_block_28 : decode cX11_block 28 = .ok (.iload_n 2, 1) := by decide +kernel
theorem dX11_block_29 : decode cX11_block 29 = .ok (.aload_n 0, 1) := by decide +kernel
theorem dX11_block_30 : decode cX11_block 30 = .ok (.getfield 18, 3) := by decide +kernel
theorem dX11_block_33 : decode cX11_block 33 = .ok (.iload_n 1, 1) := by decide +kernel
theorem dX11_block_34 : decode cX11_block 34 = .ok (.invokevirtual 87, 3) := by decide +kernel
theorem dX11_block_37 : decode cX11_block 37 = .ok (.getfield 112, 3) := by decide +kernel
theorem dX11_block_40 : decode cX11_block 40 = .ok (.if_icmp .ge 12, 3) := by decide +kernel
theorem dX11_block_43 : decode cX11_block 43 = .ok (.iload_n 3, 1) := by decide +kernel
theorem dX11_block_44 : decode cX11_block 44 = .ok (.ifCond .lt 8, 3) := by decide +kernel
theorem dX11_block_47 : decode cX11_block 47 = .ok (.iload_n 3, 1) := by decide +kernel
theorem dX11_block_48 : decode cX11_block 48 = .ok (.iconst 1, 1) := by decide +kernel
theorem dX11_block_49 : decode cX11_block 49 = .ok (.if_icmp .le 6, 3) := by decide +kernel
theorem dX11_block_52 : decode cX11_block 52 = .ok (.bipush (-3), 2) := by decide +kernel
theorem dX11_block_54 : decode cX11_block 54 = .ok (.ireturn, 1) := by decide +kernel
theorem dX11_block_55 : decode cX11_block 55 = .ok (.aload_n 0, 1) := by decide +kernel
theorem dX11_block_56 : decode cX11_block 56 = .ok (.getfield 18, 3) := by decide +kernel
theorem dX11_block_59 : decode cX11_block 59 = .ok (.iload_n 1, 1) := by decide +kernel
theorem dX11_block_60 : decode cX11_block 60 = .ok (.invokevirtual 87, 3) := by decide +kernel
theorem dX11_block_63 : decode cX11_block 63 = .ok (.iload_n 2, 1) := by decide +kernel
theorem dX11_block_64 : decode cX11_block 64 = .ok (.invokevirtual 134, 3) := by decide +kernel
theorem dX11_block_67 : decode cX11_block 67 = .ok (.istore 4, 2) := by decide +kernel
theorem dX11_block_69 : decode cX11_block 69 = .ok (.iload_n 3, 1) := by decide +kernel
theorem dX11_block_70 : decode cX11_block 70 = .ok (.ifCond .ne 8, 3) := by decide +kernel
theorem dX11_block_73 : decode cX11_block 73 = .ok (.iload 4, 2) := by decide +kernel
theorem dX11_block_75 : decode cX11_block 75 = .ok (.goto 20, 3) := by decide +kernel
theorem dX11_block_78 : decode cX11_block 78 = .ok (.aload_n 0, 1) := by decide +kernel
theorem dX11_block_79 : decode cX11_block 79 = .ok (.getfield 18, 3) := by decide +kernel
theorem dX11_block_82 : decode cX11_block 82 = .ok (.iload_n 1, 1) := by decide +kernel
theorem dX11_block_83 : decode cX11_block 83 = .ok (.invokevirtual 87, 3) := by decide +kernel
theorem dX11_block_86 : decode cX11_block 86 = .ok (.iload 4, 2) := by decide +kernel
theorem dX11_block_88 : decode cX11_block 88 = .ok (.aload_n 0, 1) := by decide +kernel
theorem dX11_block_89 : decode cX11_block 89 = .ok (.getfield 30, 3) := by decide +kernel
theorem dX11_block_92 : decode cX11_block 92 = .ok (.invokevirtual 137, 3) := by decide +kernel
theorem dX11_block_95 : decode cX11_block 95 = .ok (.ireturn, 1) := by decide +kernel
abbrev wcX11_block : List Cond := .code yX11_block cX11_block 5 (some .int) :: wsL_law
def fX11_block (v0 : Nat) (v1 : Int32) (v2 : Int32) (v3 : Int32) (g : hs_S) : Option (Int32 × hs_S) :=
  if hs_kd g v0 = 9 then
  if ¬ (hs_R g v0 1) = 0 then
  if hs_kd g ((hs_R g v0 1) - 1) = 0 then
  if (hs_I g ((hs_R g v0 1) - 1) 4) = 0 then (
    some ((-2 : Int32), g)
  ) else (
    hs_bd (fX0_has ((hs_R g v0 1) - 1) v1 g) fun r5 g4 =>
    if r5 = 0 then (
      some ((-3 : Int32), g4)
    ) else (
      if v2 < 0 then (
        some ((-3 : Int32), g4)
      ) else (
        if hs_kd g4 v0 = 9 then
        if ¬ (hs_R g4 v0 1) = 0 then
        if hs_kd g4 ((hs_R g4 v0 1) - 1) = 0 then
        hs_bd (fX0_method ((hs_R g4 v0 1) - 1) v1 g4) fun r11 g10 =>
        if hs_kd g10 r11 = 6 then
        if (hs_I g10 r11 7) ≤ v2 then (
          some ((-3 : Int32), g10)
        ) else (
          if v3 < 0 then (
            some ((-3 : Int32), g10)
          ) else (
            if v3 ≤ (1 : Int32) then (
              if hs_kd g10 v0 = 9 then
              if ¬ (hs_R g10 v0 1) = 0 then
              if hs_kd g10 ((hs_R g10 v0 1) - 1) = 0 then
              hs_bd (fX0_method ((hs_R g10 v0 1) - 1) v1 g10) fun r18 g17 =>
              if hs_kd g17 r18 = 6 then
              hs_bd ((none : Option (Int32 × hs_S))) fun r22 g21 =>
              none
              else none else none else none else none
            ) else (
              some ((-3 : Int32), g10)
            )
          )
        )
        else none else none else none else none
      )
    )
  )
  else none else none else none
abbrev rmX11_block : Room := { frames := 3, cells := 0, slots := 0, locals := 66 }
set_option maxHeartbeats 4000000 in
set_option maxRecDepth 100000 in
theorem ctX11_block (l : Launch) (B : Nat) (D : va_G) (E : Nat → ClassId) (v0 : Nat) (v1 : Int32) (v2 : Int32) (v3 : Int32) (g : hs_S) (o : Int32 × hs_S) (hf : fX11_block v0 v1 v2 v3 g = some o) : Met l yX11_block wcX11_block rmX11_block (hs_Pc B D E g [.ref (B + v0), .int v1, .int v2, .int v3]) (hs_Qi B D E o) (0) (0) (hs_F B) := by
  refine Met.ofW (cc := cX11_block) (maxL := 5) (ret := (some .int)) (by decide) rfl ?_
  intro p e s m args below meth c s₁ Bd hml hv
  obtain ⟨rfl, hP, hK⟩ := hv
  have hx := Bd.exec
  have hb := Bd.bytes
  have hr := Bd.returns
  have hts := atoms_spec (ws := wcX11_block) Bd.pre
  have hown : s.vm.findClass RX11 = some m.cls := findClass_of_methodNamed Bd.named
  have hlocks := Bd.notSynchronized
  have hS : hs_Sx B s.heap s.heap [] := va_S.rf
  have hX : hs_cx cX11_block (some .int) 5 RX11 wcX11_block p s m (List.toArray [.ref (B + v0), .int v1, .int v2, .int v3]) meth c D E := ⟨hx, hb, hr, hml, hown, hts, hlocks, hK⟩
  have hl := lv_entry ([.ref (B + v0), .int v1, .int v2, .int v3]) (n := 5) (Nat.le_of_ble_eq_true rfl)
  rw [lg_entry_eq]
  generalize (lg_sl ([.ref (B + v0), .int v1, .int v2, .int v3]) ++ List.replicate (5 - (lg_sl ([.ref (B + v0), .int v1, .int v2, .int v3])).length) Slot.unset).toArray = ls at hl ⊢
  have hl : lv_has ls 5 [(0, .ref (B + v0)), (1, .int v1), (2, .int v2), (3, .int v3)] := hl
  have hP : hs_P B D E g s.heap := hP
  unfold fX11_block at hf
  refine lv_aload_n hx hb dX11_block_0 rfl (lv_at hl 0 rfl) ?_
  obtain ⟨h1, hf⟩ := hs_ck hf
  obtain ⟨h2, hf⟩ := hs_ck hf
  refine hs_getr (C := RX11) (T := TX11) (N := 8) hx hb hts (fun w h => List.mem_cons_of_mem _ (inlX11 w h)) hown hK.1 hP h1 (by decide) rfl 1 (by decide) (hts _ (List.mem_cons_of_mem _ wq17)) (fun _ h => h) rfl h2 dX11_block_1 ?_
  obtain ⟨h3, hf⟩ := hs_ck hf
  refine hs_geti (C := RX0) (T := TX0) (N := 5) hx hb hts (fun w h => List.mem_cons_of_mem _ (inlX0 w h)) hown hK.1 hP h3 (by decide) rfl 4 (by decide) (hts _ (List.mem_cons_of_mem _ wq181)) (fun _ h => h) rfl dX11_block_4 ?_
  refine lv_if_ne (tgt := 13) hx hb dX11_block_7 (by decide) (fun hc => ?_) (fun hc => ?_)
  · replace hf := hs_f hf hc
    refine lv_aload_n hx hb dX11_block_13 rfl (lv_at hl 0 rfl) ?_
    refine hs_getr (C := RX11) (T := TX11) (N := 8) hx hb hts (fun w h => List.mem_cons_of_mem _ (inlX11 w h)) hown hK.1 hP h1 (by decide) rfl 1 (by decide) (hts _ (List.mem_cons_of_mem _ wq17)) (fun _ h => h) rfl h2 dX11_block_14 ?_
    refine lv_iload_n hx hb dX11_block_17 rfl (lv_at hl 1 rfl) ?_
    obtain ⟨r5, g4, h6, hf⟩ := hs_bd_some hf
    refine hs_calli (va_runV (As := [.int v1]) (rest := []) ⟨hx, hb, hml, hown, hts⟩ (ctX0_has l B D E ((hs_R g v0 1) - 1) v1 g _ h6) (cwV 1 hts (hs_gV (fun _ h => List.mem_cons_of_mem _ h) wq641 wq275 wq276 wq15 wq277) rfl rfl rfl (by decide +kernel) ⟨Nat.le_of_ble_eq_true rfl, Nat.le_of_ble_eq_true rfl⟩) (hs_preV (r := (RX0, TX0, 5)) hP hK h3 (by decide) rfl) rfl rfl hl.1 rfl (lv_room (Nat.le_of_ble_eq_true rfl)) dX11_block_18 ⟨(Nat.le_of_ble_eq_true rfl), (Nat.le_of_ble_eq_true rfl)⟩) hS (fun H locs hP hS => ?_)
    refine lv_if_eq (tgt := 52) hx hb dX11_block_21 (by decide) (fun hc => ?_) (fun hc => ?_)
    · replace hf := hs_t hf hc
      refine lv_bipush (v := -3) hx hb dX11_block_52 (by decide) ?_
      exact hs_iret hx hb hr hlocks rfl hK hP hS hf dX11_block_54
    · replace hf := hs_f hf hc
      refine lv_iload_n hx hb dX11_block_24 rfl (lv_at hl 2 rfl) ?_
      refine lv_if_lt (tgt := 52) hx hb dX11_block_25 (by decide) (fun hc => ?_) (fun hc => ?_)
      · replace hf := hs_t hf hc
        refine lv_bipush (v := -3) hx hb dX11_block_52 (by decide) ?_
        exact hs_iret hx hb hr hlocks rfl hK hP hS hf dX11_block_54
      · replace hf := hs_f hf hc
        refine lv_iload_n hx hb dX11_block_28 rfl (lv_at hl 2 rfl) ?_
        refine lv_aload_n hx hb dX11_block_29 rfl (lv_at hl 0 rfl) ?_
        obtain ⟨h7, hf⟩ := hs_ck hf
        obtain ⟨h8, hf⟩ := hs_ck hf
        refine hs_getr (C := RX11) (T := TX11) (N := 8) hx hb hts (fun w h => List.mem_cons_of_mem _ (inlX11 w h)) hown hK.1 hP h7 (by decide) rfl 1 (by decide) (hts _ (List.mem_cons_of_mem _ wq17)) (fun _ h => h) rfl h8 dX11_block_30 ?_
        refine lv_iload_n hx hb dX11_block_33 rfl (lv_at hl 1 rfl) ?_
        obtain ⟨h9, hf⟩ := hs_ck hf
        obtain ⟨r11, g10, h12, hf⟩ := hs_bd_some hf
        refine hs_callr (va_runV (As := [.int v1]) (rest := [.int v2]) ⟨hx, hb, hml, hown, hts⟩ (ctX0_method l B D E ((hs_R g4 v0 1) - 1) v1 g4 _ h12) (cwV 1 hts (hs_gV (fun _ h => List.mem_cons_of_mem _ h) wq488 wq108 wq109 wq15 wq110) rfl rfl rfl (by decide +kernel) ⟨Nat.le_of_ble_eq_true rfl, Nat.le_of_ble_eq_true rfl⟩) (hs_preV (r := (RX0, TX0, 5)) hP hK h9 (by decide) rfl) rfl rfl hl.1 rfl (lv_room (Nat.le_of_ble_eq_true rfl)) dX11_block_34 ⟨(Nat.le_of_ble_eq_true rfl), (Nat.le_of_ble_eq_true rfl)⟩) hS (fun H locs hP hS => ?_)
        obtain ⟨h13, hf⟩ := hs_ck hf
        refine hs_geti (C := RX7) (T := TX7) (N := 11) hx hb hts (fun w h => List.mem_cons_of_mem _ (inlX7 w h)) hown hK.1 hP h13 (by decide) rfl 7 (by decide) (hts _ (List.mem_cons_of_mem _ wq636)) (fun _ h => h) rfl dX11_block_37 ?_
        refine lv_icmp_ge (tgt := 52) hx hb dX11_block_40 (by decide) (fun hc => ?_) (fun hc => ?_)
        · replace hf := hs_t hf hc
          refine lv_bipush (v := -3) hx hb dX11_block_52 (by decide) ?_
          exact hs_iret hx hb hr hlocks rfl hK hP hS hf dX11_block_54
        · replace hf := hs_f hf hc
          refine lv_iload_n hx hb dX11_block_43 rfl (lv_at hl 3 rfl) ?_
          refine lv_if_lt (tgt := 52) hx hb dX11_block_44 (by decide) (fun hc => ?_) (fun hc => ?_)
          · replace hf := hs_t hf hc
            refine lv_bipush (v := -3) hx hb dX11_block_52 (by decide) ?_
            exact hs_iret hx hb hr hlocks rfl hK hP hS hf dX11_block_54
          · replace hf := hs_f hf hc
            refine lv_iload_n hx hb dX11_block_47 rfl (lv_at hl 3 rfl) ?_
            refine lv_iconst (v := 1) hx hb dX11_block_48 (by decide) ?_
            refine lv_icmp_le (tgt := 55) hx hb dX11_block_49 (by decide) (fun hc => ?_) (fun hc => ?_)
            · replace hf := hs_t hf hc
              refine lv_aload_n hx hb dX11_block_55 rfl (lv_at hl 0 rfl) ?_
              obtain ⟨h14, hf⟩ := hs_ck hf
              obtain ⟨h15, hf⟩ := hs_ck hf
              refine hs_getr (C := RX11) (T := TX11) (N := 8) hx hb hts (fun w h => List.mem_cons_of_mem _ (inlX11 w h)) hown hK.1 hP h14 (by decide) rfl 1 (by decide) (hts _ (List.mem_cons_of_mem _ wq17)) (fun _ h => h) rfl h15 dX11_block_56 ?_
              refine lv_iload_n hx hb dX11_block_59 rfl (lv_at hl 1 rfl) ?_
              obtain ⟨h16, hf⟩ := hs_ck hf
              obtain ⟨r18, g17, h19, hf⟩ := hs_bd_some hf
              refine hs_callr (va_runV (As := [.int v1]) (rest := []) ⟨hx, hb, hml, hown, hts⟩ (ctX0_method l B D E ((hs_R g10 v0 1) - 1) v1 g10 _ h19) (cwV 1 hts (hs_gV (fun _ h => List.mem_cons_of_mem _ h) wq488 wq108 wq109 wq15 wq110) rfl rfl rfl (by decide +kernel) ⟨Nat.le_of_ble_eq_true rfl, Nat.le_of_ble_eq_true rfl⟩) (hs_preV (r := (RX0, TX0, 5)) hP hK h16 (by decide) rfl) rfl rfl hl.1 rfl (lv_room (Nat.le_of_ble_eq_true rfl)) dX11_block_60 ⟨(Nat.le_of_ble_eq_true rfl), (Nat.le_of_ble_eq_true rfl)⟩) hS (fun H locs hP hS => ?_)
              refine lv_iload_n hx hb dX11_block_63 rfl (lv_at hl 2 rfl) ?_
              obtain ⟨h20, hf⟩ := hs_ck hf
              obtain ⟨r22, g21, h23, hf⟩ := hs_bd_some hf
              cases h23
            · replace hf := hs_f hf hc
              refine lv_bipush (v := -3) hx hb dX11_block_52 (by decide) ?_
              exact hs_iret hx hb hr hlocks rfl hK hP hS hf dX11_block_54
  · replace hf := hs_t hf hc
    refine lv_bipush (v := -2) hx hb dX11_block_10 (by decide) ?_
    exact hs_iret hx hb hr hlocks rfl hK hP hS hf dX11_block_12

theorem dX11_run_0 : decode cX11_run 0 = .ok (.aload_n 0, 1) := by decide +kernel
theorem dX11_run_1 : decode cX11_run 1 = .ok (.getfield 24, 3) := by decide +kernel
theorem dX11_run_4 : decode cX11_run 4 = .ok (.getfield 71, 3) := by decide +kernel
theorem dX11_run_7 : decode cX11_run 7 = .ok (.ifCond .ne 6, 3) := by decide +kernel
theorem dX11_run_10 : decode cX11_run 10 = .ok (.bipush (-2), 2) := by decide +kernel
theorem dX11_run_12 : decode cX11_run 12 = .ok (.ireturn, 1) := by decide +kernel
theorem dX11_run_13 : decode cX11_run 13 = .ok (.aload_n 0, 1) := by decide +kernel
theorem dX11_run_14 : decode cX11_run 14 = .ok (.getfield 24, 3) := by decide +kernel
theorem dX11_run_17 : decode cX11_run 17 = .ok (.iload_n 1, 1) := by decide +kernel
theorem dX11_run_18 : decode cX11_run 18 = .ok (.invokevirtual 103, 3) := by decide +kernel
theorem dX11_run_21 : decode cX11_run 21 = .ok (.ifCond .eq 15, 3) := by decide +kernel
theorem dX11_run_24 : decode cX11_run 24 = .ok (.iload 4, 2) := by decide +kernel
theorem dX11_run_26 : decode cX11_run 26 = .ok (.ifCond .lt 10, 3) := by decide +kernel
theorem dX11_run_29 : decode cX11_run 29 = .ok (.iload 4, 2) := by decide +kernel
theorem dX11_run_31 : decode cX11_run 31 = .ok (.ldc 141, 2) := by decide +kernel
theorem dX11_run_33 : decode cX11_run 33 = .ok (.if_icmp .le 6, 3) := by decide +kernel
theorem dX11_run_36 : decode cX11_run 36 = .ok (.bipush (-3), 2) := by decide +kernel
theorem dX11_run_38 : decode cX11_run 38 = .ok (.ireturn, 1) := by decide +kernel
theorem dX11_run_39 : decode cX11_run 39 = .ok (.aload_n 0, 1) := by decide +kernel
theorem dX11_run_40 : decode cX11_run 40 = .ok (.getfield 53, 3) := by decide +kernel
theorem dX11_run_43 : decode cX11_run 43 = .ok (.iload_n 1, 1) := by decide +kernel
theorem dX11_run_44 : decode cX11_run 44 = .ok (.iload_n 2, 1) := by decide +kernel
theorem dX11_run_45 : decode cX11_run 45 = .ok (.iload_n 3, 1) := by decide +kernel
theorem dX11_run_46 : decode cX11_run 46 = .ok (.iload 4, 2) := by decide +kernel
theorem dX11_run_48 : decode cX11_run 48 = .ok (.invokevirtual 142, 3) := by decide +kernel
theorem dX11_run_51 : decode cX11_run 51 = .ok (.ireturn, 1) := by decide +kernel
abbrev wcX11_run : List Cond := .code yX11_run cX11_run 5 (some .int) :: wsL_law
def fX11_run (v0 : Nat) (v1 : Int32) (v2 : Int32) (v3 : Int32) (v4 : Int32) (g : hs_S) : Option (Int32 × hs_S) :=
  if hs_kd g v0 = 9 then
  if ¬ (hs_R g v0 3) = 0 then
  if hs_kd g ((hs_R g v0 3) - 1) = 0 then
  if (hs_I g ((hs_R g v0 3) - 1) 4) = 0 then (
    some ((-2 : Int32), g)
  ) else (
    hs_bd (fX0_has ((hs_R g v0 3) - 1) v1 g) fun r5 g4 =>
    if r5 = 0 then (
      some ((-3 : Int32), g4)
    ) else (
      if v4 < 0 then (
        some ((-3 : Int32), g4)
      ) else (
        if v4 ≤ (100000 : Int32) then (
          if hs_kd g4 v0 = 9 then
          if ¬ (hs_R g4 v0 7) = 0 then
          if hs_kd g4 ((hs_R g4 v0 7) - 1) = 5 then
          hs_bd ((none : Option (Int32 × hs_S))) fun r11 g10 =>
          none
          else none else none else none
        ) else (
          some ((-3 : Int32), g4)
        )
      )
    )
  )
  else none else none else none
abbrev rmX11_run : Room := { frames := 7, cells := 0, slots := 0, locals := 165 }
set_option maxHeartbeats 4000000 in
set_option maxRecDepth 100000 in
theorem ctX11_run (l : Launch) (B : Nat) (D : va_G) (E : Nat → ClassId) (v0 : Nat) (v1 : Int32) (v2 : Int32) (v3 : Int32) (v4 : Int32) (g : hs_S) (o : Int32 × hs_S) (hf : fX11_run v0 v1 v2 v3 v4 g = some o) : Met l yX11_run wcX11_run rmX11_run (hs_Pc B D E g [.ref (B + v0), .int v1, .int v2, .int v3, .int v4]) (hs_Qi B D E o) (0) (0) (hs_F B) := by
  refine Met.ofW (cc := cX11_run) (maxL := 5) (ret := (some .int)) (by decide) rfl ?_
  intro p e s m args below meth c s₁ Bd hml hv
  obtain ⟨rfl, hP, hK⟩ := hv
  have hx := Bd.exec
  have hb := Bd.bytes
  have hr := Bd.returns
  have hts := atoms_spec (ws := wcX11_run) Bd.pre
  have hown : s.vm.findClass RX11 = some m.cls := findClass_of_methodNamed Bd.named
  have hlocks := Bd.notSynchronized
  have hS : hs_Sx B s.heap s.heap [] := va_S.rf
  have hX : hs_cx cX11_run (some .int) 5 RX11 wcX11_run p s m (List.toArray [.ref (B + v0), .int v1, .int v2, .int v3, .int v4]) meth c D E := ⟨hx, hb, hr, hml, hown, hts, hlocks, hK⟩
  have hl := lv_entry ([.ref (B + v0), .int v1, .int v2, .int v3, .int v4]) (n := 5) (Nat.le_of_ble_eq_true rfl)
  rw [lg_entry_eq]
  generalize (lg_sl ([.ref (B + v0), .int v1, .int v2, .int v3, .int v4]) ++ List.replicate (5 - (lg_sl ([.ref (B + v0), .int v1, .int v2, .int v3, .int v4])).length) Slot.unset).toArray = ls at hl ⊢
  have hl : lv_has ls 5 [(0, .ref (B + v0)), (1, .int v1), (2, .int v2), (3, .int v3), (4, .int v4)] := hl
  have hP : hs_P B D E g s.heap := hP
  unfold fX11_run at hf
  refine lv_aload_n hx hb dX11_run_0 rfl (lv_at hl 0 rfl) ?_
  obtain ⟨h1, hf⟩ := hs_ck hf
  obtain ⟨h2, hf⟩ := hs_ck hf
  refine hs_getr (C := RX11) (T := TX11) (N := 8) hx hb hts (fun w h => List.mem_cons_of_mem _ (inlX11 w h)) hown hK.1 hP h1 (by decide) rfl 3 (by decide) (hts _ (List.mem_cons_of_mem _ wq19)) (fun _ h => h) rfl h2 dX11_run_1 ?_
  obtain ⟨h3, hf⟩ := hs_ck hf
  refine hs_geti (C := RX0) (T := TX0) (N := 5) hx hb hts (fun w h => List.mem_cons_of_mem _ (inlX0 w h)) hown hK.1 hP h3 (by decide) rfl 4 (by decide) (hts _ (List.mem_cons_of_mem _ wq181)) (fun _ h => h) rfl dX11_run_4 ?_
  refine lv_if_ne (tgt := 13) hx hb dX11_run_7 (by decide) (fun hc => ?_) (fun hc => ?_)
  · replace hf := hs_f hf hc
    refine lv_aload_n hx hb dX11_run_13 rfl (lv_at hl 0 rfl) ?_
    refine hs_getr (C := RX11) (T := TX11) (N := 8) hx hb hts (fun w h => List.mem_cons_of_mem _ (inlX11 w h)) hown hK.1 hP h1 (by decide) rfl 3 (by decide) (hts _ (List.mem_cons_of_mem _ wq19)) (fun _ h => h) rfl h2 dX11_run_14 ?_
    refine lv_iload_n hx hb dX11_run_17 rfl (lv_at hl 1 rfl) ?_
    obtain ⟨r5, g4, h6, hf⟩ := hs_bd_some hf
    refine hs_calli (va_runV (As := [.int v1]) (rest := []) ⟨hx, hb, hml, hown, hts⟩ (ctX0_has l B D E ((hs_R g v0 3) - 1) v1 g _ h6) (cwV 1 hts (hs_gV (fun _ h => List.mem_cons_of_mem _ h) wq641 wq275 wq276 wq15 wq277) rfl rfl rfl (by decide +kernel) ⟨Nat.le_of_ble_eq_true rfl, Nat.le_of_ble_eq_true rfl⟩) (hs_preV (r := (RX0, TX0, 5)) hP hK h3 (by decide) rfl) rfl rfl hl.1 rfl (lv_room (Nat.le_of_ble_eq_true rfl)) dX11_run_18 ⟨(Nat.le_of_ble_eq_true rfl), (Nat.le_of_ble_eq_true rfl)⟩) hS (fun H locs hP hS => ?_)
    refine lv_if_eq (tgt := 36) hx hb dX11_run_21 (by decide) (fun hc => ?_) (fun hc => ?_)
    · replace hf := hs_t hf hc
      refine lv_bipush (v := -3) hx hb dX11_run_36 (by decide) ?_
      exact hs_iret hx hb hr hlocks rfl hK hP hS hf dX11_run_38
    · replace hf := hs_f hf hc
      refine lv_iload hx hb dX11_run_24 (lv_at hl 4 rfl) ?_
      refine lv_if_lt (tgt := 36) hx hb dX11_run_26 (by decide) (fun hc => ?_) (fun hc => ?_)
      · replace hf := hs_t hf hc
        refine lv_bipush (v := -3) hx hb dX11_run_36 (by decide) ?_
        exact hs_iret hx hb hr hlocks rfl hK hP hS hf dX11_run_38
      · replace hf := hs_f hf hc
        refine lv_iload hx hb dX11_run_29 (lv_at hl 4 rfl) ?_
        refine lv_ldc (v := 100000) hx hb hown (hts _ (List.mem_cons_of_mem _ wq693)) dX11_run_31 ?_
        refine lv_icmp_le (tgt := 39) hx hb dX11_run_33 (by decide) (fun hc => ?_) (fun hc => ?_)
        · replace hf := hs_t hf hc
          refine lv_aload_n hx hb dX11_run_39 rfl (lv_at hl 0 rfl) ?_
          obtain ⟨h7, hf⟩ := hs_ck hf
          obtain ⟨h8, hf⟩ := hs_ck hf
          refine hs_getr (C := RX11) (T := TX11) (N := 8) hx hb hts (fun w h => List.mem_cons_of_mem _ (inlX11 w h)) hown hK.1 hP h7 (by decide) rfl 7 (by decide) (hts _ (List.mem_cons_of_mem _ wq35)) (fun _ h => h) rfl h8 dX11_run_40 ?_
          refine lv_iload_n hx hb dX11_run_43 rfl (lv_at hl 1 rfl) ?_
          refine lv_iload_n hx hb dX11_run_44 rfl (lv_at hl 2 rfl) ?_
          refine lv_iload_n hx hb dX11_run_45 rfl (lv_at hl 3 rfl) ?_
          refine lv_iload hx hb dX11_run_46 (lv_at hl 4 rfl) ?_
          obtain ⟨h9, hf⟩ := hs_ck hf
          obtain ⟨r11, g10, h12, hf⟩ := hs_bd_some hf
          cases h12
        · replace hf := hs_f hf hc
          refine lv_bipush (v := -3) hx hb dX11_run_36 (by decide) ?_
          exact hs_iret hx hb hr hlocks rfl hK hP hS hf dX11_run_38
  · replace hf := hs_t hf hc
    refine lv_bipush (v := -2) hx hb dX11_run_10 (by decide) ?_
    exact hs_iret hx hb hr hlocks rfl hK hP hS hf dX11_run_12

theorem dX11_answer_0 : decode cX11_answer 0 = .ok (.aload_n 0, 1) := by decide +kernel
theorem dX11_answer_1 : decode cX11_answer 1 = .ok (.getfield 53, 3) := by decide +kernel
theorem dX11_answer_4 : decode cX11_answer 4 = .ok (.getfield 146, 3) := by decide +kernel
theorem dX11_answer_7 : decode cX11_answer 7 = .ok (.ireturn, 1) := by decide +kernel
abbrev wcX11_answer : List Cond := .code yX11_answer cX11_answer 1 (some .int) :: wsL_law
def fX11_answer (v0 : Nat) (g : hs_S) : Option (Int32 × hs_S) :=
  if hs_kd g v0 = 9 then
  if ¬ (hs_R g v0 7) = 0 then
  if hs_kd g ((hs_R g v0 7) - 1) = 5 then
  some ((hs_I g ((hs_R g v0 7) - 1) 5), g)
  else none else none else none
abbrev rmX11_answer : Room := { frames := 0, cells := 0, slots := 0, locals := 0 }
set_option maxHeartbeats 4000000 in
set_option maxRecDepth 100000 in
theorem ctX11_answer (l : Launch) (B : Nat) (D : va_G) (E : Nat → ClassId) (v0 : Nat) (g : hs_S) (o : Int32 × hs_S) (hf : fX11_answer v0 g = some o) : Met l yX11_answer wcX11_answer rmX11_answer (hs_Pc B D E g [.ref (B + v0)]) (hs_Qi B D E o) (0) (0) (hs_F B) := by
  refine Met.ofW (cc := cX11_answer) (maxL := 1) (ret := (some .int)) (by decide) rfl ?_
  intro p e s m args below meth c s₁ Bd hml hv
  obtain ⟨rfl, hP, hK⟩ := hv
  have hx := Bd.exec
  have hb := Bd.bytes
  have hr := Bd.returns
  have hts := atoms_spec (ws := wcX11_answer) Bd.pre
  have hown : s.vm.findClass RX11 = some m.cls := findClass_of_methodNamed Bd.named
  have hlocks := Bd.notSynchronized
  have hS : hs_Sx B s.heap s.heap [] := va_S.rf
  have hX : hs_cx cX11_answer (some .int) 1 RX11 wcX11_answer p s m (List.toArray [.ref (B + v0)]) meth c D E := ⟨hx, hb, hr, hml, hown, hts, hlocks, hK⟩
  have hl := lv_entry ([.ref (B + v0)]) (n := 1) (Nat.le_of_ble_eq_true rfl)
  rw [lg_entry_eq]
  generalize (lg_sl ([.ref (B + v0)]) ++ List.replicate (1 - (lg_sl ([.ref (B + v0)])).length) Slot.unset).toArray = ls at hl ⊢
  have hl : lv_has ls 1 [(0, .ref (B + v0))] := hl
  have hP : hs_P B D E g s.heap := hP
  unfold fX11_answer at hf
  refine lv_aload_n hx hb dX11_answer_0 rfl (lv_at hl 0 rfl) ?_
  obtain ⟨h1, hf⟩ := hs_ck hf
  obtain ⟨h2, hf⟩ := hs_ck hf
  refine hs_getr (C := RX11) (T := TX11) (N := 8) hx hb hts (fun w h => List.mem_cons_of_mem _ (inlX11 w h)) hown hK.1 hP h1 (by decide) rfl 7 (by decide) (hts _ (List.mem_cons_of_mem _ wq35)) (fun _ h => h) rfl h2 dX11_answer_1 ?_
  obtain ⟨h3, hf⟩ := hs_ck hf
  refine hs_geti (C := RX6) (T := TX6) (N := 8) hx hb hts (fun w h => List.mem_cons_of_mem _ (inlX6 w h)) hown hK.1 hP h3 (by decide) rfl 5 (by decide) (hts _ (List.mem_cons_of_mem _ wq921)) (fun _ h => h) rfl dX11_answer_4 ?_
  exact hs_iret hx hb hr hlocks rfl hK hP hS hf dX11_answer_7

theorem dX11_counted_0 : decode cX11_counted 0 = .ok (.aload_n 0, 1) := by decide +kernel
theorem dX11_counted_1 : decode cX11_counted 1 = .ok (.getfield 53, 3) := by decide +kernel
theorem dX11_counted_4 : decode cX11_counted 4 = .ok (.getfield 149, 3) := by decide +kernel
theorem dX11_counted_7 : decode cX11_counted 7 = .ok (.ireturn, 1) := by decide +kernel
abbrev wcX11_counted : List Cond := .code yX11_counted cX11_counted 1 (some .int) :: wsL_law
def fX11_counted (v0 : Nat) (g : hs_S) : Option (Int32 × hs_S) :=
  if hs_kd g v0 = 9 then
  if ¬ (hs_R g v0 7) = 0 then
  if hs_kd g ((hs_R g v0 7) - 1) = 5 then
  some ((hs_I g ((hs_R g v0 7) - 1) 6), g)
  else none else none else none
abbrev rmX11_counted : Room := { frames := 0, cells := 0, slots := 0, locals := 0 }
set_option maxHeartbeats 4000000 in
set_option maxRecDepth 100000 in
theorem ctX11_counted (l : Launch) (B : Nat) (D : va_G) (E : Nat → ClassId) (v0 : Nat) (g : hs_S) (o : Int32 × hs_S) (hf : fX11_counted v0 g = some o) : Met l yX11_counted wcX11_counted rmX11_counted (hs_Pc B D E g [.ref (B + v0)]) (hs_Qi B D E o) (0) (0) (hs_F B) := by
  refine Met.ofW (cc := cX11_counted) (maxL := 1) (ret := (some .int)) (by decide) rfl ?_
  intro p e s m args below meth c s₁ Bd hml hv
  obtain ⟨rfl, hP, hK⟩ := hv
  have hx := Bd.exec
  have hb := Bd.bytes
  have hr := Bd.returns
  have hts := atoms_spec (ws := wcX11_counted) Bd.pre
  have hown : s.vm.findClass RX11 = some m.cls := findClass_of_methodNamed Bd.named
  have hlocks := Bd.notSynchronized
  have hS : hs_Sx B s.heap s.heap [] := va_S.rf
  have hX : hs_cx cX11_counted (some .int) 1 RX11 wcX11_counted p s m (List.toArray [.ref (B + v0)]) meth c D E := ⟨hx, hb, hr, hml, hown, hts, hlocks, hK⟩
  have hl := lv_entry ([.ref (B + v0)]) (n := 1) (Nat.le_of_ble_eq_true rfl)
  rw [lg_entry_eq]
  generalize (lg_sl ([.ref (B + v0)]) ++ List.replicate (1 - (lg_sl ([.ref (B + v0)])).length) Slot.unset).toArray = ls at hl ⊢
  have hl : lv_has ls 1 [(0, .ref (B + v0))] := hl
  have hP : hs_P B D E g s.heap := hP
  unfold fX11_counted at hf
  refine lv_aload_n hx hb dX11_counted_0 rfl (lv_at hl 0 rfl) ?_
  obtain ⟨h1, hf⟩ := hs_ck hf
  obtain ⟨h2, hf⟩ := hs_ck hf
  refine hs_getr (C := RX11) (T := TX11) (N := 8) hx hb hts (fun w h => List.mem_cons_of_mem _ (inlX11 w h)) hown hK.1 hP h1 (by decide) rfl 7 (by decide) (hts _ (List.mem_cons_of_mem _ wq35)) (fun _ h => h) rfl h2 dX11_counted_1 ?_
  obtain ⟨h3, hf⟩ := hs_ck hf
  refine hs_geti (C := RX6) (T := TX6) (N := 8) hx hb hts (fun w h => List.mem_cons_of_mem _ (inlX6 w h)) hown hK.1 hP h3 (by decide) rfl 6 (by decide) (hts _ (List.mem_cons_of_mem _ wq930)) (fun _ h => h) rfl dX11_counted_4 ?_
  exact hs_iret hx hb hr hlocks rfl hK hP hS hf dX11_counted_7

theorem dX11_steps_0 : decode cX11_steps 0 = .ok (.aload_n 0, 1) := by decide +kernel
theorem dX11_steps_1 : decode cX11_steps 1 = .ok (.getfield 53, 3) := by decide +kernel
theorem dX11_steps_4 : decode cX11_steps 4 = .ok (.getfield 152, 3) := by decide +kernel
theorem dX11_steps_7 : decode cX11_steps 7 = .ok (.ireturn, 1) := by decide +kernel
abbrev wcX11_steps : List Cond := .code yX11_steps cX11_steps 1 (some .int) :: wsL_law
def fX11_steps (v0 : Nat) (g : hs_S) : Option (Int32 × hs_S) :=
  if hs_kd g v0 = 9 then
  if ¬ (hs_R g v0 7) = 0 then
  if hs_kd g ((hs_R g v0 7) - 1) = 5 then
  some ((hs_I g ((hs_R g v0 7) - 1) 7), g)
  else none else none else none
abbrev rmX11_steps : Room := { frames := 0, cells := 0, slots := 0, locals := 0 }
set_option maxHeartbeats 4000000 in
set_option maxRecDepth 100000 in
theorem ctX11_steps (l : Launch) (B : Nat) (D : va_G) (E : Nat → ClassId) (v0 : Nat) (g : hs_S) (o : Int32 × hs_S) (hf : fX11_steps v0 g = some o) : Met l yX11_steps wcX11_steps rmX11_steps (hs_Pc B D E g [.ref (B + v0)]) (hs_Qi B D E o) (0) (0) (hs_F B) := by
  refine Met.ofW (cc := cX11_steps) (maxL := 1) (ret := (some .int)) (by decide) rfl ?_
  intro p e s m args below meth c s₁ Bd hml hv
  obtain ⟨rfl, hP, hK⟩ := hv
  have hx := Bd.exec
  have hb := Bd.bytes
  have hr := Bd.returns
  have hts := atoms_spec (ws := wcX11_steps) Bd.pre
  have hown : s.vm.findClass RX11 = some m.cls := findClass_of_methodNamed Bd.named
  have hlocks := Bd.notSynchronized
  have hS : hs_Sx B s.heap s.heap [] := va_S.rf
  have hX : hs_cx cX11_steps (some .int) 1 RX11 wcX11_steps p s m (List.toArray [.ref (B + v0)]) meth c D E := ⟨hx, hb, hr, hml, hown, hts, hlocks, hK⟩
  have hl := lv_entry ([.ref (B + v0)]) (n := 1) (Nat.le_of_ble_eq_true rfl)
  rw [lg_entry_eq]
  generalize (lg_sl ([.ref (B + v0)]) ++ List.replicate (1 - (lg_sl ([.ref (B + v0)])).length) Slot.unset).toArray = ls at hl ⊢
  have hl : lv_has ls 1 [(0, .ref (B + v0))] := hl
  have hP : hs_P B D E g s.heap := hP
  unfold fX11_steps at hf
  refine lv_aload_n hx hb dX11_steps_0 rfl (lv_at hl 0 rfl) ?_
  obtain ⟨h1, hf⟩ := hs_ck hf
  obtain ⟨h2, hf⟩ := hs_ck hf
  refine hs_getr (C := RX11) (T := TX11) (N := 8) hx hb hts (fun w h => List.mem_cons_of_mem _ (inlX11 w h)) hown hK.1 hP h1 (by decide) rfl 7 (by decide) (hts _ (List.mem_cons_of_mem _ wq35)) (fun _ h => h) rfl h2 dX11_steps_1 ?_
  obtain ⟨h3, hf⟩ := hs_ck hf
  refine hs_geti (C := RX6) (T := TX6) (N := 8) hx hb hts (fun w h => List.mem_cons_of_mem _ (inlX6 w h)) hown hK.1 hP h3 (by decide) rfl 7 (by decide) (hts _ (List.mem_cons_of_mem _ wq939)) (fun _ h => h) rfl dX11_steps_4 ?_
  exact hs_iret hx hb hr hlocks rfl hK hP hS hf dX11_steps_7

theorem dX11_element_0 : decode cX11_element 0 = .ok (.iload_n 1, 1) := by decide +kernel
theorem dX11_element_1 : decode cX11_element 1 = .ok (.ifCond .lt 8, 3) := by decide +kernel
theorem dX11_element_4 : decode cX11_element 4 = .ok (.iload_n 1, 1) := by decide +kernel
theorem dX11_element_5 : decode cX11_element 5 = .ok (.iconst 4, 1) := by decide +kernel
theorem dX11_element_6 : decode cX11_element 6 = .ok (.if_icmp .lt 6, 3) := by decide +kernel
theorem dX11_element_9 : decode cX11_element 9 = .ok (.bipush (-3), 2) := by decide +kernel
theorem dX11_element_11 : decode cX11_element 11 = .ok (.ireturn, 1) := by decide +kernel
theorem dX11_element_12 : decode cX11_element 12 = .ok (.iload_n 2, 1) := by decide +kernel
theorem dX11_element_13 : decode cX11_element 13 = .ok (.iconst (-1), 1) := by decide +kernel
theorem dX11_element_14 : decode cX11_element 14 = .ok (.if_icmp .ne 15, 3) := by decide +kernel
theorem dX11_element_17 : decode cX11_element 17 = .ok (.aload_n 0, 1) := by decide +kernel
theorem dX11_element_18 : decode cX11_element 18 = .ok (.getfield 53, 3) := by decide +kernel
theorem dX11_element_21 : decode cX11_element 21 = .ok (.getfield 155, 3) := by decide +kernel
theorem dX11_element_24 : decode cX11_element 24 = .ok (.iload_n 1, 1) := by decide +kernel
theorem dX11_element_25 : decode cX11_element 25 = .ok (.invokevirtual 159, 3) := by decide +kernel
theorem dX11_element_28 : decode cX11_element 28 = .ok (.ireturn, 1) := by decide +kernel
theorem dX11_element_29 : decode cX11_element 29 = .ok (.aload_n 0, 1) := by decide +kernel
theorem dX11_element_30 : decode cX11_element 30 = .ok (.getfield 53, 3) := by decide +kernel
theorem dX11_element_33 : decode cX11_element 33 = .ok (.getfield 155, 3) := by decide +kernel
theorem dX11_element_36 : decode cX11_element 36 = .ok (.iload_n 1, 1) := by decide +kernel
theorem dX11_element_37 : decode cX11_element 37 = .ok (.iload_n 2, 1) := by decide +kernel
theorem dX11_element_38 : decode cX11_element 38 = .ok (.invokevirtual 162, 3) := by decide +kernel
theorem dX11_element_41 : decode cX11_element 41 = .ok (.ifCond .eq 18, 3) := by decide +kernel
theorem dX11_element_44 : decode cX11_element 44 = .ok (.aload_n 0, 1) := by decide +kernel
theorem dX11_element_45 : decode cX11_element 45 = .ok (.getfield 53, 3) := by decide +kernel
theorem dX11_element_48 : decode cX11_element 48 = .ok (.getfield 155, 3) := by decide +kernel
theorem dX11_element_51 : decode cX11_element 51 = .ok (.iload_n 1, 1) := by decide +kernel
theorem dX11_element_52 : decode cX11_element 52 = .ok (.iload_n 2, 1) := by decide +kernel
theorem dX11_element_53 : decode cX11_element 53 = .ok (.invokevirtual 165, 3) := by decide +kernel
theorem dX11_element_56 : decode cX11_element 56 = .ok (.goto 4, 3) := by decide +kernel
theorem dX11_element_59 : decode cX11_element 59 = .ok (.iconst (-1), 1) := by decide +kernel
theorem dX11_element_60 : decode cX11_element 60 = .ok (.ireturn, 1) := by decide +kernel
abbrev wcX11_element : List Cond := .code yX11_element cX11_element 3 (some .int) :: wsL_law
def fX11_element (v0 : Nat) (v1 : Int32) (v2 : Int32) (g : hs_S) : Option (Int32 × hs_S) :=
  if v1 < 0 then (
    some ((-3 : Int32), g)
  ) else (
    if v1 < (4 : Int32) then (
      if v2 = (-1 : Int32) then (
        if hs_kd g v0 = 9 then
        if ¬ (hs_R g v0 7) = 0 then
        if hs_kd g ((hs_R g v0 7) - 1) = 5 then
        if ¬ (hs_R g ((hs_R g v0 7) - 1) 2) = 0 then
        if hs_kd g ((hs_R g ((hs_R g v0 7) - 1) 2) - 1) = 8 then
        hs_bd (fX10_sizeOf ((hs_R g ((hs_R g v0 7) - 1) 2) - 1) v1 g) fun r23 g22 =>
        some (r23, g22)
        else none else none else none else none else none
      ) else (
        if hs_kd g v0 = 9 then
        if ¬ (hs_R g v0 7) = 0 then
        if hs_kd g ((hs_R g v0 7) - 1) = 5 then
        if ¬ (hs_R g ((hs_R g v0 7) - 1) 2) = 0 then
        if hs_kd g ((hs_R g ((hs_R g v0 7) - 1) 2) - 1) = 8 then
        hs_bd (fX10_has ((hs_R g ((hs_R g v0 7) - 1) 2) - 1) v1 v2 g) fun r7 g6 =>
        if r7 = 0 then (
          some ((-1 : Int32), g6)
        ) else (
          if hs_kd g6 v0 = 9 then
          if ¬ (hs_R g6 v0 7) = 0 then
          if hs_kd g6 ((hs_R g6 v0 7) - 1) = 5 then
          if ¬ (hs_R g6 ((hs_R g6 v0 7) - 1) 2) = 0 then
          if hs_kd g6 ((hs_R g6 ((hs_R g6 v0 7) - 1) 2) - 1) = 8 then
          hs_bd (fX10_get ((hs_R g6 ((hs_R g6 v0 7) - 1) 2) - 1) v1 v2 g6) fun r15 g14 =>
          some (r15, g14)
          else none else none else none else none else none
        )
        else none else none else none else none else none
      )
    ) else (
      some ((-3 : Int32), g)
    )
  )
abbrev rmX11_element : Room := { frames := 3, cells := 0, slots := 0, locals := 64 }
set_option maxHeartbeats 4000000 in
set_option maxRecDepth 100000 in
theorem ctX11_element (l : Launch) (B : Nat) (D : va_G) (E : Nat → ClassId) (v0 : Nat) (v1 : Int32) (v2 : Int32) (g : hs_S) (o : Int32 × hs_S) (hf : fX11_element v0 v1 v2 g = some o) : Met l yX11_element wcX11_element rmX11_element (hs_Pc B D E g [.ref (B + v0), .int v1, .int v2]) (hs_Qi B D E o) (0) (0) (hs_F B) := by
  refine Met.ofW (cc := cX11_element) (maxL := 3) (ret := (some .int)) (by decide) rfl ?_
  intro p e s m args below meth c s₁ Bd hml hv
  obtain ⟨rfl, hP, hK⟩ := hv
  have hx := Bd.exec
  have hb := Bd.bytes
  have hr := Bd.returns
  have hts := atoms_spec (ws := wcX11_element) Bd.pre
  have hown : s.vm.findClass RX11 = some m.cls := findClass_of_methodNamed Bd.named
  have hlocks := Bd.notSynchronized
  have hS : hs_Sx B s.heap s.heap [] := va_S.rf
  have hX : hs_cx cX11_element (some .int) 3 RX11 wcX11_element p s m (List.toArray [.ref (B + v0), .int v1, .int v2]) meth c D E := ⟨hx, hb, hr, hml, hown, hts, hlocks, hK⟩
  have hl := lv_entry ([.ref (B + v0), .int v1, .int v2]) (n := 3) (Nat.le_of_ble_eq_true rfl)
  rw [lg_entry_eq]
  generalize (lg_sl ([.ref (B + v0), .int v1, .int v2]) ++ List.replicate (3 - (lg_sl ([.ref (B + v0), .int v1, .int v2])).length) Slot.unset).toArray = ls at hl ⊢
  have hl : lv_has ls 3 [(0, .ref (B + v0)), (1, .int v1), (2, .int v2)] := hl
  have hP : hs_P B D E g s.heap := hP
  unfold fX11_element at hf
  refine lv_iload_n hx hb dX11_element_0 rfl (lv_at hl 1 rfl) ?_
  refine lv_if_lt (tgt := 9) hx hb dX11_element_1 (by decide) (fun hc => ?_) (fun hc => ?_)
  · replace hf := hs_t hf hc
    refine lv_bipush (v := -3) hx hb dX11_element_9 (by decide) ?_
    exact hs_iret hx hb hr hlocks rfl hK hP hS hf dX11_element_11
  · replace hf := hs_f hf hc
    refine lv_iload_n hx hb dX11_element_4 rfl (lv_at hl 1 rfl) ?_
    refine lv_iconst (v := 4) hx hb dX11_element_5 (by decide) ?_
    refine lv_icmp_lt (tgt := 12) hx hb dX11_element_6 (by decide) (fun hc => ?_) (fun hc => ?_)
    · replace hf := hs_t hf hc
      refine lv_iload_n hx hb dX11_element_12 rfl (lv_at hl 2 rfl) ?_
      refine lv_iconst (v := -1) hx hb dX11_element_13 (by decide) ?_
      refine lv_icmp_ne (tgt := 29) hx hb dX11_element_14 (by decide) (fun hc => ?_) (fun hc => ?_)
      · replace hf := hs_f hf hc
        refine lv_aload_n hx hb dX11_element_29 rfl (lv_at hl 0 rfl) ?_
        obtain ⟨h1, hf⟩ := hs_ck hf
        obtain ⟨h2, hf⟩ := hs_ck hf
        refine hs_getr (C := RX11) (T := TX11) (N := 8) hx hb hts (fun w h => List.mem_cons_of_mem _ (inlX11 w h)) hown hK.1 hP h1 (by decide) rfl 7 (by decide) (hts _ (List.mem_cons_of_mem _ wq35)) (fun _ h => h) rfl h2 dX11_element_30 ?_
        obtain ⟨h3, hf⟩ := hs_ck hf
        obtain ⟨h4, hf⟩ := hs_ck hf
        refine hs_getr (C := RX6) (T := TX6) (N := 8) hx hb hts (fun w h => List.mem_cons_of_mem _ (inlX6 w h)) hown hK.1 hP h3 (by decide) rfl 2 (by decide) (hts _ (List.mem_cons_of_mem _ wq948)) (fun _ h => h) rfl h4 dX11_element_33 ?_
        refine lv_iload_n hx hb dX11_element_36 rfl (lv_at hl 1 rfl) ?_
        refine lv_iload_n hx hb dX11_element_37 rfl (lv_at hl 2 rfl) ?_
        obtain ⟨h5, hf⟩ := hs_ck hf
        obtain ⟨r7, g6, h8, hf⟩ := hs_bd_some hf
        refine hs_calli (va_runV (As := [.int v1, .int v2]) (rest := []) ⟨hx, hb, hml, hown, hts⟩ (ctX10_has l B D E ((hs_R g ((hs_R g v0 7) - 1) 2) - 1) v1 v2 g _ h8) (cwV 2 hts (hs_gV (fun _ h => List.mem_cons_of_mem _ h) wq950 wq819 wq820 wq97 wq821) rfl rfl rfl (by decide +kernel) ⟨Nat.le_of_ble_eq_true rfl, Nat.le_of_ble_eq_true rfl⟩) (hs_preV (r := (RX10, TX10, 2)) hP hK h5 (by decide) rfl) rfl rfl hl.1 rfl (lv_room (Nat.le_of_ble_eq_true rfl)) dX11_element_38 ⟨(Nat.le_of_ble_eq_true rfl), (Nat.le_of_ble_eq_true rfl)⟩) hS (fun H locs hP hS => ?_)
        refine lv_if_eq (tgt := 59) hx hb dX11_element_41 (by decide) (fun hc => ?_) (fun hc => ?_)
        · replace hf := hs_t hf hc
          refine lv_iconst (v := -1) hx hb dX11_element_59 (by decide) ?_
          exact hs_iret hx hb hr hlocks rfl hK hP hS hf dX11_element_60
        · replace hf := hs_f hf hc
          refine lv_aload_n hx hb dX11_element_44 rfl (lv_at hl 0 rfl) ?_
          obtain ⟨h9, hf⟩ := hs_ck hf
          obtain ⟨h10, hf⟩ := hs_ck hf
          refine hs_getr (C := RX11) (T := TX11) (N := 8) hx hb hts (fun w h => List.mem_cons_of_mem _ (inlX11 w h)) hown hK.1 hP h9 (by decide) rfl 7 (by decide) (hts _ (List.mem_cons_of_mem _ wq35)) (fun _ h => h) rfl h10 dX11_element_45 ?_
          obtain ⟨h11, hf⟩ := hs_ck hf
          obtain ⟨h12, hf⟩ := hs_ck hf
          refine hs_getr (C := RX6) (T := TX6) (N := 8) hx hb hts (fun w h => List.mem_cons_of_mem _ (inlX6 w h)) hown hK.1 hP h11 (by decide) rfl 2 (by decide) (hts _ (List.mem_cons_of_mem _ wq948)) (fun _ h => h) rfl h12 dX11_element_48 ?_
          refine lv_iload_n hx hb dX11_element_51 rfl (lv_at hl 1 rfl) ?_
          refine lv_iload_n hx hb dX11_element_52 rfl (lv_at hl 2 rfl) ?_
          obtain ⟨h13, hf⟩ := hs_ck hf
          obtain ⟨r15, g14, h16, hf⟩ := hs_bd_some hf
          refine hs_calli (va_runV (As := [.int v1, .int v2]) (rest := []) ⟨hx, hb, hml, hown, hts⟩ (ctX10_get l B D E ((hs_R g6 ((hs_R g6 v0 7) - 1) 2) - 1) v1 v2 g6 _ h16) (cwV 2 hts (hs_gV (fun _ h => List.mem_cons_of_mem _ h) wq951 wq825 wq826 wq97 wq827) rfl rfl rfl (by decide +kernel) ⟨Nat.le_of_ble_eq_true rfl, Nat.le_of_ble_eq_true rfl⟩) (hs_preV (r := (RX10, TX10, 2)) hP hK h13 (by decide) rfl) rfl rfl hl.1 rfl (lv_room (Nat.le_of_ble_eq_true rfl)) dX11_element_53 ⟨(Nat.le_of_ble_eq_true rfl), (Nat.le_of_ble_eq_true rfl)⟩) hS (fun H locs hP hS => ?_)
          refine lv_goto (tgt := 60) hx hb dX11_element_56 (by decide) ?_
          exact hs_iret hx hb hr hlocks rfl hK hP hS hf dX11_element_60
      · replace hf := hs_t hf hc
        refine lv_aload_n hx hb dX11_element_17 rfl (lv_at hl 0 rfl) ?_
        obtain ⟨h17, hf⟩ := hs_ck hf
        obtain ⟨h18, hf⟩ := hs_ck hf
        refine hs_getr (C := RX11) (T := TX11) (N := 8) hx hb hts (fun w h => List.mem_cons_of_mem _ (inlX11 w h)) hown hK.1 hP h17 (by decide) rfl 7 (by decide) (hts _ (List.mem_cons_of_mem _ wq35)) (fun _ h => h) rfl h18 dX11_element_18 ?_
        obtain ⟨h19, hf⟩ := hs_ck hf
        obtain ⟨h20, hf⟩ := hs_ck hf
        refine hs_getr (C := RX6) (T := TX6) (N := 8) hx hb hts (fun w h => List.mem_cons_of_mem _ (inlX6 w h)) hown hK.1 hP h19 (by decide) rfl 2 (by decide) (hts _ (List.mem_cons_of_mem _ wq948)) (fun _ h => h) rfl h20 dX11_element_21 ?_
        refine lv_iload_n hx hb dX11_element_24 rfl (lv_at hl 1 rfl) ?_
        obtain ⟨h21, hf⟩ := hs_ck hf
        obtain ⟨r23, g22, h24, hf⟩ := hs_bd_some hf
        refine hs_calli (va_runV (As := [.int v1]) (rest := []) ⟨hx, hb, hml, hown, hts⟩ (ctX10_sizeOf l B D E ((hs_R g ((hs_R g v0 7) - 1) 2) - 1) v1 g _ h24) (cwV 1 hts (hs_gV (fun _ h => List.mem_cons_of_mem _ h) wq949 wq814 wq815 wq97 wq816) rfl rfl rfl (by decide +kernel) ⟨Nat.le_of_ble_eq_true rfl, Nat.le_of_ble_eq_true rfl⟩) (hs_preV (r := (RX10, TX10, 2)) hP hK h21 (by decide) rfl) rfl rfl hl.1 rfl (lv_room (Nat.le_of_ble_eq_true rfl)) dX11_element_25 ⟨(Nat.le_of_ble_eq_true rfl), (Nat.le_of_ble_eq_true rfl)⟩) hS (fun H locs hP hS => ?_)
        exact hs_iret hx hb hr hlocks rfl hK hP hS hf dX11_element_28
    · replace hf := hs_f hf hc
      refine lv_bipush (v := -3) hx hb dX11_element_9 (by decide) ?_
      exact hs_iret hx hb hr hlocks rfl hK hP hS hf dX11_element_11

theorem dX11_unwrite_0 : decode cX11_unwrite 0 = .ok (.aload_n 0, 1) := by decide +kernel
theorem dX11_unwrite_1 : decode cX11_unwrite 1 = .ok (.getfield 24, 3) := by decide +kernel
theorem dX11_unwrite_4 : decode cX11_unwrite 4 = .ok (.getfield 71, 3) := by decide +kernel
theorem dX11_unwrite_7 : decode cX11_unwrite 7 = .ok (.ifCond .ne 6, 3) := by decide +kernel
theorem dX11_unwrite_10 : decode cX11_unwrite 10 = .ok (.bipush (-2), 2) := by decide +kernel
theorem dX11_unwrite_12 : decode cX11_unwrite 12 = .ok (.ireturn, 1) := by decide +kernel
theorem dX11_unwrite_13 : decode cX11_unwrite 13 = .ok (.aload_n 0, 1) := by decide +kernel
theorem dX11_unwrite_14 : decode cX11_unwrite 14 = .ok (.getfield 21, 3) := by decide +kernel
theorem dX11_unwrite_17 : decode cX11_unwrite 17 = .ok (.invokevirtual 68, 3) := by decide +kernel
theorem dX11_unwrite_20 : decode cX11_unwrite 20 = .ok (.aload_n 0, 1) := by decide +kernel
theorem dX11_unwrite_21 : decode cX11_unwrite 21 = .ok (.getfield 21, 3) := by decide +kernel
theorem dX11_unwrite_24 : decode cX11_unwrite 24 = .ok (.aload_n 0, 1) := by decide +kernel
theorem dX11_unwrite_25 : decode cX11_unwrite 25 = .ok (.getfield 18, 3) := by decide +kernel
theorem dX11_unwrite_28 : decode cX11_unwrite 28 = .ok (.getfield 71, 3) := by decide +kernel
theorem dX11_unwrite_31 : decode cX11_unwrite 31 = .ok (.invokevirtual 61, 3) := by decide +kernel
theorem dX11_unwrite_34 : decode cX11_unwrite 34 = .ok (.iconst 0, 1) := by decide +kernel
theorem dX11_unwrite_35 : decode cX11_unwrite 35 = .ok (.istore_n 1, 1) := by decide +kernel
theorem dX11_unwrite_36 : decode cX11_unwrite 36 = .ok (.iload_n 1, 1) := by decide +kernel
theorem dX11_unwrite_37 : decode cX11_unwrite 37 = .ok (.aload_n 0, 1) := by decide +kernel
theorem dX11_unwrite_38 : decode cX11_unwrite 38 = .ok (.getfield 18, 3) := by decide +kernel
theorem dX11_unwrite_41 : decode cX11_unwrite 41 = .ok (.getfield 71, 3) := by decide +kernel
theorem dX11_unwrite_44 : decode cX11_unwrite 44 = .ok (.if_icmp .ge 29, 3) := by decide +kernel
theorem dX11_unwrite_47 : decode cX11_unwrite 47 = .ok (.aload_n 0, 1) := by decide +kernel
theorem dX11_unwrite_48 : decode cX11_unwrite 48 = .ok (.aload_n 0, 1) := by decide +kernel
theorem dX11_unwrite_49 : decode cX11_unwrite 49 = .ok (.getfield 18, 3) := by decide +kernel
theorem dX11_unwrite_52 : decode cX11_unwrite 52 = .ok (.iload_n 1, 1) := by decide +kernel
theorem dX11_unwrite_53 : decode cX11_unwrite 53 = .ok (.invokevirtual 87, 3) := by decide +kernel
theorem dX11_unwrite_56 : decode cX11_unwrite 56 = .ok (.aload_n 0, 1) := by decide +kernel
theorem dX11_unwrite_57 : decode cX11_unwrite 57 = .ok (.getfield 21, 3) := by decide +kernel
theorem dX11_unwrite_60 : decode cX11_unwrite 60 = .ok (.iload_n 1, 1) := by decide +kernel
theorem dX11_unwrite_61 : decode cX11_unwrite 61 = .ok (.invokevirtual 87, 3) := by decide +kernel
theorem dX11_unwrite_64 : decode cX11_unwrite 64 = .ok (.invokevirtual 168, 3) := by decide +kernel
theorem dX11_unwrite_67 : decode cX11_unwrite 67 = .ok (.iinc 1 1, 3) := by decide +kernel
theorem dX11_unwrite_70 : decode cX11_unwrite 70 = .ok (.goto (-34), 3) := by decide +kernel
theorem dX11_unwrite_73 : decode cX11_unwrite 73 = .ok (.aload_n 0, 1) := by decide +kernel
theorem dX11_unwrite_74 : decode cX11_unwrite 74 = .ok (.getfield 37, 3) := by decide +kernel
theorem dX11_unwrite_77 : decode cX11_unwrite 77 = .ok (.aload_n 0, 1) := by decide +kernel
theorem dX11_unwrite_78 : decode cX11_unwrite 78 = .ok (.getfield 21, 3) := by decide +kernel
theorem dX11_unwrite_81 : decode cX11_unwrite 81 = .ok (.invokevirtual 64, 3) := by decide +kernel
theorem dX11_unwrite_84 : decode cX11_unwrite 84 = .ok (.pop, 1) := by decide +kernel
theorem dX11_unwrite_85 : decode cX11_unwrite 85 = .ok (.aload_n 0, 1) := by decide +kernel
theorem dX11_unwrite_86 : decode cX11_unwrite 86 = .ok (.getfield 18, 3) := by decide +kernel
theorem dX11_unwrite_89 : decode cX11_unwrite 89 = .ok (.astore_n 1, 1) := by decide +kernel
theorem dX11_unwrite_90 : decode cX11_unwrite 90 = .ok (.aload_n 0, 1) := by decide +kernel
theorem dX11_unwrite_91 : decode cX11_unwrite 91 = .ok (.aload_n 0, 1) := by decide +kernel
theorem dX11_unwrite_92 : decode cX11_unwrite 92 = .ok (.getfield 21, 3) := by decide +kernel
theorem dX11_unwrite_95 : decode cX11_unwrite 95 = .ok (.putfield 18, 3) := by decide +kernel
theorem dX11_unwrite_98 : decode cX11_unwrite 98 = .ok (.aload_n 0, 1) := by decide +kernel
theorem dX11_unwrite_99 : decode cX11_unwrite 99 = .ok (.aload_n 1, 1) := by decide +kernel
theorem dX11_unwrite_100 : decode cX11_unwrite 100 = .ok (.putfield 21, 3) := by decide +kernel
theorem dX11_unwrite_103 : decode cX11_unwrite 103 = .ok (.aload_n 0, 1) := by decide +kernel
theorem dX11_unwrite_104 : decode cX11_unwrite 104 = .ok (.getfield 18, 3) := by decide +kernel
theorem dX11_unwrite_107 : decode cX11_unwrite 107 = .ok (.invokevirtual 99, 3) := by decide +kernel
theorem dX11_unwrite_110 : decode cX11_unwrite 110 = .ok (.ireturn, 1) := by decide +kernel
abbrev wcX11_unwrite : List Cond := .code yX11_unwrite cX11_unwrite 2 (some .int) :: wsL_law
def lX11_unwrite_36 : Nat → Nat → Int32 → hs_S → Option (hs_S)
  | 0, _, _, _ => none
  | n + 1, v0, v1, g =>
    if hs_kd g v0 = 9 then
    if ¬ (hs_R g v0 1) = 0 then
    if hs_kd g ((hs_R g v0 1) - 1) = 0 then
    if (hs_I g ((hs_R g v0 1) - 1) 4) ≤ v1 then (
      some g
    ) else (
      hs_bd (fX0_method ((hs_R g v0 1) - 1) v1 g) fun r21 g20 =>
      if hs_kd g20 v0 = 9 then
      if ¬ (hs_R g20 v0 2) = 0 then
      if hs_kd g20 ((hs_R g20 v0 2) - 1) = 0 then
      hs_bd (fX0_method ((hs_R g20 v0 2) - 1) v1 g20) fun r27 g26 =>
      if hs_kd g26 v0 = 9 then
      hs_bv ((none : Option (hs_S))) fun g30 =>
      none
      else none else none else none else none
    )
    else none else none else none
theorem lX11_unwrite_36_s (n : Nat) (v0 : Nat) (v1 : Int32) (g : hs_S) : lX11_unwrite_36 (n + 1) v0 v1 g =
    if hs_kd g v0 = 9 then
    if ¬ (hs_R g v0 1) = 0 then
    if hs_kd g ((hs_R g v0 1) - 1) = 0 then
    if (hs_I g ((hs_R g v0 1) - 1) 4) ≤ v1 then (
      some g
    ) else (
      hs_bd (fX0_method ((hs_R g v0 1) - 1) v1 g) fun r21 g20 =>
      if hs_kd g20 v0 = 9 then
      if ¬ (hs_R g20 v0 2) = 0 then
      if hs_kd g20 ((hs_R g20 v0 2) - 1) = 0 then
      hs_bd (fX0_method ((hs_R g20 v0 2) - 1) v1 g20) fun r27 g26 =>
      if hs_kd g26 v0 = 9 then
      hs_bv ((none : Option (hs_S))) fun g30 =>
      none
      else none else none else none else none
    )
    else none else none else none := rfl
def fX11_unwrite (v0 : Nat) (g : hs_S) : Option (Int32 × hs_S) :=
  if hs_kd g v0 = 9 then
  if ¬ (hs_R g v0 3) = 0 then
  if hs_kd g ((hs_R g v0 3) - 1) = 0 then
  if (hs_I g ((hs_R g v0 3) - 1) 4) = 0 then (
    some ((-2 : Int32), g)
  ) else (
    if ¬ (hs_R g v0 2) = 0 then
    if hs_kd g ((hs_R g v0 2) - 1) = 0 then
    hs_bv (fX0_empty ((hs_R g v0 2) - 1) g) fun g6 =>
    if hs_kd g6 v0 = 9 then
    if ¬ (hs_R g6 v0 2) = 0 then
    if ¬ (hs_R g6 v0 1) = 0 then
    if hs_kd g6 ((hs_R g6 v0 1) - 1) = 0 then
    if hs_kd g6 ((hs_R g6 v0 2) - 1) = 0 then
    hs_bv (fX0_append ((hs_R g6 v0 2) - 1) (hs_I g6 ((hs_R g6 v0 1) - 1) 4) g6) fun g14 =>
    hs_bv (lX11_unwrite_36 hs_N v0 (0 : Int32) g14) fun g34 =>
    if hs_kd g34 v0 = 9 then
    if ¬ (hs_R g34 v0 5) = 0 then
    if ¬ (hs_R g34 v0 2) = 0 then
    if hs_kd g34 ((hs_R g34 v0 5) - 1) = 2 then
    hs_bd (fX2_firstWrong ((hs_R g34 v0 5) - 1) ((hs_R g34 v0 2) - 1) g34) fun r41 g40 =>
    if hs_kd g40 v0 = 9 then
    if ¬ (hs_R g40 v0 1) = 0 then
    if ¬ (hs_R g40 v0 2) = 0 then
    if ¬ (hs_R (hs_wR (hs_wR g40 v0 1 ((hs_R g40 v0 2) - 1)) v0 2 ((hs_R g40 v0 1) - 1)) v0 1) = 0 then
    if hs_kd (hs_wR (hs_wR g40 v0 1 ((hs_R g40 v0 2) - 1)) v0 2 ((hs_R g40 v0 1) - 1)) ((hs_R (hs_wR (hs_wR g40 v0 1 ((hs_R g40 v0 2) - 1)) v0 2 ((hs_R g40 v0 1) - 1)) v0 1) - 1) = 0 then
    hs_bd ((none : Option (Int32 × hs_S))) fun r49 g48 =>
    none
    else none else none else none else none else none else none else none else none else none else none else none else none else none else none else none else none
  )
  else none else none else none
abbrev rmX11_unwrite : Room := { frames := 7, cells := 0, slots := 0, locals := 167 }
set_option maxHeartbeats 4000000 in
set_option maxRecDepth 100000 in
theorem wX11_unwrite_36 {p : Program} {l : Launch} {e : Env} {s : State} {m : MethodId} {args : Array Value} {below : List Frame} {meth : Method} {c : Code} {B : Nat} {D : va_G} {E : Nat → ClassId} (hX : hs_cx cX11_unwrite (some .int) 2 RX11 wcX11_unwrite p s m args meth c D E) {Q : State → Prop} {o : hs_S} {v0 : Nat} (hex0 : ∀ (H : Heap) (locs : List Loc) (ls : Array Slot), hs_P B D E (o) H → hs_Sx B s.heap H locs → lv_has ls 2 [(0, .ref (B + v0))] → W p l e rmX11_unwrite s m args below meth c H locs 0 0 Q (F0 m 73 ls [])) : ∀ (n : Nat) (v1 : Int32) (g : hs_S), lX11_unwrite_36 n v0 v1 g = some o → ∀ (H : Heap) (locs : List Loc) (ls : Array Slot), hs_P B D E g H → hs_Sx B s.heap H locs → lv_has ls 2 [(0, .ref (B + v0)), (1, .int v1)] → W p l e rmX11_unwrite s m args below meth c H locs 0 0 Q (F0 m 36 ls []) := by
  obtain ⟨hx, hb, hr, hml, hown, hts, hlocks, hK⟩ := id hX
  intro n
  induction n with
  | zero =>
    intro v1 g hf
    cases hf
  | succ n ih =>
    intro v1 g hf H locs ls hP hS hl
    replace hf := (lX11_unwrite_36_s n v0 v1 g).symm.trans hf
    refine lv_iload_n hx hb dX11_unwrite_36 rfl (lv_at hl 1 rfl) ?_
    refine lv_aload_n hx hb dX11_unwrite_37 rfl (lv_at hl 0 rfl) ?_
    obtain ⟨h17, hf⟩ := hs_ck hf
    obtain ⟨h18, hf⟩ := hs_ck hf
    refine hs_getr (C := RX11) (T := TX11) (N := 8) hx hb hts (fun w h => List.mem_cons_of_mem _ (inlX11 w h)) hown hK.1 hP h17 (by decide) rfl 1 (by decide) (hts _ (List.mem_cons_of_mem _ wq17)) (fun _ h => h) rfl h18 dX11_unwrite_38 ?_
    obtain ⟨h19, hf⟩ := hs_ck hf
    refine hs_geti (C := RX0) (T := TX0) (N := 5) hx hb hts (fun w h => List.mem_cons_of_mem _ (inlX0 w h)) hown hK.1 hP h19 (by decide) rfl 4 (by decide) (hts _ (List.mem_cons_of_mem _ wq181)) (fun _ h => h) rfl dX11_unwrite_41 ?_
    refine lv_icmp_ge (tgt := 73) hx hb dX11_unwrite_44 (by decide) (fun hc => ?_) (fun hc => ?_)
    · replace hf := hs_t hf hc
      obtain rfl := Option.some.inj hf
      exact hex0 _ _ _ hP hS (lv_sub hl [0] rfl)
    · replace hf := hs_f hf hc
      refine lv_aload_n hx hb dX11_unwrite_47 rfl (lv_at hl 0 rfl) ?_
      refine lv_aload_n hx hb dX11_unwrite_48 rfl (lv_at hl 0 rfl) ?_
      refine hs_getr (C := RX11) (T := TX11) (N := 8) hx hb hts (fun w h => List.mem_cons_of_mem _ (inlX11 w h)) hown hK.1 hP h17 (by decide) rfl 1 (by decide) (hts _ (List.mem_cons_of_mem _ wq17)) (fun _ h => h) rfl h18 dX11_unwrite_49 ?_
      refine lv_iload_n hx hb dX11_unwrite_52 rfl (lv_at hl 1 rfl) ?_
      obtain ⟨r21, g20, h22, hf⟩ := hs_bd_some hf
      refine hs_callr (va_runV (As := [.int v1]) (rest := [.ref (B + v0)]) ⟨hx, hb, hml, hown, hts⟩ (ctX0_method l B D E ((hs_R g v0 1) - 1) v1 g _ h22) (cwV 1 hts (hs_gV (fun _ h => List.mem_cons_of_mem _ h) wq488 wq108 wq109 wq15 wq110) rfl rfl rfl (by decide +kernel) ⟨Nat.le_of_ble_eq_true rfl, Nat.le_of_ble_eq_true rfl⟩) (hs_preV (r := (RX0, TX0, 5)) hP hK h19 (by decide) rfl) rfl rfl hl.1 rfl (lv_room (Nat.le_of_ble_eq_true rfl)) dX11_unwrite_53 ⟨(Nat.le_of_ble_eq_true rfl), (Nat.le_of_ble_eq_true rfl)⟩) hS (fun H locs hP hS => ?_)
      refine lv_aload_n hx hb dX11_unwrite_56 rfl (lv_at hl 0 rfl) ?_
      obtain ⟨h23, hf⟩ := hs_ck hf
      obtain ⟨h24, hf⟩ := hs_ck hf
      refine hs_getr (C := RX11) (T := TX11) (N := 8) hx hb hts (fun w h => List.mem_cons_of_mem _ (inlX11 w h)) hown hK.1 hP h23 (by decide) rfl 2 (by decide) (hts _ (List.mem_cons_of_mem _ wq18)) (fun _ h => h) rfl h24 dX11_unwrite_57 ?_
      refine lv_iload_n hx hb dX11_unwrite_60 rfl (lv_at hl 1 rfl) ?_
      obtain ⟨h25, hf⟩ := hs_ck hf
      obtain ⟨r27, g26, h28, hf⟩ := hs_bd_some hf
      refine hs_callr (va_runV (As := [.int v1]) (rest := [.ref (B + r21), .ref (B + v0)]) ⟨hx, hb, hml, hown, hts⟩ (ctX0_method l B D E ((hs_R g20 v0 2) - 1) v1 g20 _ h28) (cwV 1 hts (hs_gV (fun _ h => List.mem_cons_of_mem _ h) wq488 wq108 wq109 wq15 wq110) rfl rfl rfl (by decide +kernel) ⟨Nat.le_of_ble_eq_true rfl, Nat.le_of_ble_eq_true rfl⟩) (hs_preV (r := (RX0, TX0, 5)) hP hK h25 (by decide) rfl) rfl rfl hl.1 rfl (lv_room (Nat.le_of_ble_eq_true rfl)) dX11_unwrite_61 ⟨(Nat.le_of_ble_eq_true rfl), (Nat.le_of_ble_eq_true rfl)⟩) hS (fun H locs hP hS => ?_)
      obtain ⟨h29, hf⟩ := hs_ck hf
      obtain ⟨g30, h32, hf⟩ := hs_bv_some hf
      cases h32

set_option maxHeartbeats 4000000 in
set_option maxRecDepth 100000 in
theorem ctX11_unwrite (l : Launch) (B : Nat) (D : va_G) (E : Nat → ClassId) (v0 : Nat) (g : hs_S) (o : Int32 × hs_S) (hf : fX11_unwrite v0 g = some o) : Met l yX11_unwrite wcX11_unwrite rmX11_unwrite (hs_Pc B D E g [.ref (B + v0)]) (hs_Qi B D E o) (0) (0) (hs_F B) := by
  refine Met.ofW (cc := cX11_unwrite) (maxL := 2) (ret := (some .int)) (by decide) rfl ?_
  intro p e s m args below meth c s₁ Bd hml hv
  obtain ⟨rfl, hP, hK⟩ := hv
  have hx := Bd.exec
  have hb := Bd.bytes
  have hr := Bd.returns
  have hts := atoms_spec (ws := wcX11_unwrite) Bd.pre
  have hown : s.vm.findClass RX11 = some m.cls := findClass_of_methodNamed Bd.named
  have hlocks := Bd.notSynchronized
  have hS : hs_Sx B s.heap s.heap [] := va_S.rf
  have hX : hs_cx cX11_unwrite (some .int) 2 RX11 wcX11_unwrite p s m (List.toArray [.ref (B + v0)]) meth c D E := ⟨hx, hb, hr, hml, hown, hts, hlocks, hK⟩
  have hl := lv_entry ([.ref (B + v0)]) (n := 2) (Nat.le_of_ble_eq_true rfl)
  rw [lg_entry_eq]
  generalize (lg_sl ([.ref (B + v0)]) ++ List.replicate (2 - (lg_sl ([.ref (B + v0)])).length) Slot.unset).toArray = ls at hl ⊢
  have hl : lv_has ls 2 [(0, .ref (B + v0))] := hl
  have hP : hs_P B D E g s.heap := hP
  unfold fX11_unwrite at hf
  refine lv_aload_n hx hb dX11_unwrite_0 rfl (lv_at hl 0 rfl) ?_
  obtain ⟨h1, hf⟩ := hs_ck hf
  obtain ⟨h2, hf⟩ := hs_ck hf
  refine hs_getr (C := RX11) (T := TX11) (N := 8) hx hb hts (fun w h => List.mem_cons_of_mem _ (inlX11 w h)) hown hK.1 hP h1 (by decide) rfl 3 (by decide) (hts _ (List.mem_cons_of_mem _ wq19)) (fun _ h => h) rfl h2 dX11_unwrite_1 ?_
  obtain ⟨h3, hf⟩ := hs_ck hf
  refine hs_geti (C := RX0) (T := TX0) (N := 5) hx hb hts (fun w h => List.mem_cons_of_mem _ (inlX0 w h)) hown hK.1 hP h3 (by decide) rfl 4 (by decide) (hts _ (List.mem_cons_of_mem _ wq181)) (fun _ h => h) rfl dX11_unwrite_4 ?_
  refine lv_if_ne (tgt := 13) hx hb dX11_unwrite_7 (by decide) (fun hc => ?_) (fun hc => ?_)
  · replace hf := hs_f hf hc
    refine lv_aload_n hx hb dX11_unwrite_13 rfl (lv_at hl 0 rfl) ?_
    obtain ⟨h4, hf⟩ := hs_ck hf
    refine hs_getr (C := RX11) (T := TX11) (N := 8) hx hb hts (fun w h => List.mem_cons_of_mem _ (inlX11 w h)) hown hK.1 hP h1 (by decide) rfl 2 (by decide) (hts _ (List.mem_cons_of_mem _ wq18)) (fun _ h => h) rfl h4 dX11_unwrite_14 ?_
    obtain ⟨h5, hf⟩ := hs_ck hf
    obtain ⟨g6, h8, hf⟩ := hs_bv_some hf
    refine hs_callv (va_runV (As := []) (rest := []) ⟨hx, hb, hml, hown, hts⟩ (ctX0_empty l B D E ((hs_R g v0 2) - 1) g _ h8) (cwV 0 hts (hs_gV (fun _ h => List.mem_cons_of_mem _ h) wq384 wq385 wq386 wq15 wq387) rfl rfl rfl (by decide +kernel) ⟨Nat.le_of_ble_eq_true rfl, Nat.le_of_ble_eq_true rfl⟩) (hs_preV (r := (RX0, TX0, 5)) hP hK h5 (by decide) rfl) rfl rfl hl.1 rfl (lv_room (Nat.le_of_ble_eq_true rfl)) dX11_unwrite_17 ⟨(Nat.le_of_ble_eq_true rfl), (Nat.le_of_ble_eq_true rfl)⟩) hS (fun H locs hP hS => ?_)
    refine lv_aload_n hx hb dX11_unwrite_20 rfl (lv_at hl 0 rfl) ?_
    obtain ⟨h9, hf⟩ := hs_ck hf
    obtain ⟨h10, hf⟩ := hs_ck hf
    refine hs_getr (C := RX11) (T := TX11) (N := 8) hx hb hts (fun w h => List.mem_cons_of_mem _ (inlX11 w h)) hown hK.1 hP h9 (by decide) rfl 2 (by decide) (hts _ (List.mem_cons_of_mem _ wq18)) (fun _ h => h) rfl h10 dX11_unwrite_21 ?_
    refine lv_aload_n hx hb dX11_unwrite_24 rfl (lv_at hl 0 rfl) ?_
    obtain ⟨h11, hf⟩ := hs_ck hf
    refine hs_getr (C := RX11) (T := TX11) (N := 8) hx hb hts (fun w h => List.mem_cons_of_mem _ (inlX11 w h)) hown hK.1 hP h9 (by decide) rfl 1 (by decide) (hts _ (List.mem_cons_of_mem _ wq17)) (fun _ h => h) rfl h11 dX11_unwrite_25 ?_
    obtain ⟨h12, hf⟩ := hs_ck hf
    refine hs_geti (C := RX0) (T := TX0) (N := 5) hx hb hts (fun w h => List.mem_cons_of_mem _ (inlX0 w h)) hown hK.1 hP h12 (by decide) rfl 4 (by decide) (hts _ (List.mem_cons_of_mem _ wq181)) (fun _ h => h) rfl dX11_unwrite_28 ?_
    obtain ⟨h13, hf⟩ := hs_ck hf
    obtain ⟨g14, h16, hf⟩ := hs_bv_some hf
    refine hs_callv (va_runV (As := [.int (hs_I g6 ((hs_R g6 v0 1) - 1) 4)]) (rest := []) ⟨hx, hb, hml, hown, hts⟩ (ctX0_append l B D E ((hs_R g6 v0 2) - 1) (hs_I g6 ((hs_R g6 v0 1) - 1) 4) g6 _ h16) (cwV 1 hts (hs_gV (fun _ h => List.mem_cons_of_mem _ h) wq166 wq167 wq168 wq15 wq169) rfl rfl rfl (by decide +kernel) ⟨Nat.le_of_ble_eq_true rfl, Nat.le_of_ble_eq_true rfl⟩) (hs_preV (r := (RX0, TX0, 5)) hP hK h13 (by decide) rfl) rfl rfl hl.1 rfl (lv_room (Nat.le_of_ble_eq_true rfl)) dX11_unwrite_31 ⟨(Nat.le_of_ble_eq_true rfl), (Nat.le_of_ble_eq_true rfl)⟩) hS (fun H locs hP hS => ?_)
    refine lv_iconst (v := 0) hx hb dX11_unwrite_34 (by decide) ?_
    refine lv_istore_n (lv' := [(1, .int (0 : Int32)), (0, .ref (B + v0))]) hx hb dX11_unwrite_35 rfl hl (by decide) rfl (fun ls hl => ?_)
    obtain ⟨g34, h35, hf⟩ := hs_bv_some hf
    refine wX11_unwrite_36 hX (fun H locs ls hP hS hl => ?_) hs_N _ _ h35 _ _ _ hP hS (lv_sub hl [1, 0] rfl)
    refine lv_aload_n hx hb dX11_unwrite_73 rfl (lv_at hl 0 rfl) ?_
    obtain ⟨h36, hf⟩ := hs_ck hf
    obtain ⟨h37, hf⟩ := hs_ck hf
    refine hs_getr (C := RX11) (T := TX11) (N := 8) hx hb hts (fun w h => List.mem_cons_of_mem _ (inlX11 w h)) hown hK.1 hP h36 (by decide) rfl 5 (by decide) (hts _ (List.mem_cons_of_mem _ wq27)) (fun _ h => h) rfl h37 dX11_unwrite_74 ?_
    refine lv_aload_n hx hb dX11_unwrite_77 rfl (lv_at hl 0 rfl) ?_
    obtain ⟨h38, hf⟩ := hs_ck hf
    refine hs_getr (C := RX11) (T := TX11) (N := 8) hx hb hts (fun w h => List.mem_cons_of_mem _ (inlX11 w h)) hown hK.1 hP h36 (by decide) rfl 2 (by decide) (hts _ (List.mem_cons_of_mem _ wq18)) (fun _ h => h) rfl h38 dX11_unwrite_78 ?_
    obtain ⟨h39, hf⟩ := hs_ck hf
    obtain ⟨r41, g40, h42, hf⟩ := hs_bd_some hf
    refine hs_calli (va_runV (As := [.ref (B + ((hs_R g34 v0 2) - 1))]) (rest := []) ⟨hx, hb, hml, hown, hts⟩ (ctX2_firstWrong l B D E ((hs_R g34 v0 5) - 1) ((hs_R g34 v0 2) - 1) g34 _ h42) (cwV 1 hts (hs_gV (fun _ h => List.mem_cons_of_mem _ h) wq182 wq183 wq184 wq26 wq185) rfl rfl rfl (by decide +kernel) ⟨Nat.le_of_ble_eq_true rfl, Nat.le_of_ble_eq_true rfl⟩) (hs_preV (r := (RX2, TX2, 1)) hP hK h39 (by decide) rfl) rfl rfl hl.1 rfl (lv_room (Nat.le_of_ble_eq_true rfl)) dX11_unwrite_81 ⟨(Nat.le_of_ble_eq_true rfl), (Nat.le_of_ble_eq_true rfl)⟩) hS (fun H locs hP hS => ?_)
    refine lv_pop hx hb dX11_unwrite_84 rfl ?_
    refine lv_aload_n hx hb dX11_unwrite_85 rfl (lv_at hl 0 rfl) ?_
    obtain ⟨h43, hf⟩ := hs_ck hf
    obtain ⟨h44, hf⟩ := hs_ck hf
    refine hs_getr (C := RX11) (T := TX11) (N := 8) hx hb hts (fun w h => List.mem_cons_of_mem _ (inlX11 w h)) hown hK.1 hP h43 (by decide) rfl 1 (by decide) (hts _ (List.mem_cons_of_mem _ wq17)) (fun _ h => h) rfl h44 dX11_unwrite_86 ?_
    refine lv_astore_n (lv' := [(1, .ref (B + ((hs_R g40 v0 1) - 1))), (0, .ref (B + v0))]) hx hb dX11_unwrite_89 rfl hl (by decide) rfl (fun ls hl => ?_)
    refine lv_aload_n hx hb dX11_unwrite_90 rfl (lv_at hl 1 rfl) ?_
    refine lv_aload_n hx hb dX11_unwrite_91 rfl (lv_at hl 1 rfl) ?_
    obtain ⟨h45, hf⟩ := hs_ck hf
    refine hs_getr (C := RX11) (T := TX11) (N := 8) hx hb hts (fun w h => List.mem_cons_of_mem _ (inlX11 w h)) hown hK.1 hP h43 (by decide) rfl 2 (by decide) (hts _ (List.mem_cons_of_mem _ wq18)) (fun _ h => h) rfl h45 dX11_unwrite_92 ?_
    refine hs_putr (C := RX11) (T := TX11) (N := 8) hx hb hts (fun w h => List.mem_cons_of_mem _ (inlX11 w h)) tyX11 tyX11_ok nmX11 hown hK.1 hP hS h43 (by decide) rfl 1 (by decide) (hts _ (List.mem_cons_of_mem _ wq17)) (fun _ h => h) (Or.inl rfl) (fun _ => rfl) (fun _ => rfl) rfl dX11_unwrite_95 (fun H locs hP hS => ?_)
    refine lv_aload_n hx hb dX11_unwrite_98 rfl (lv_at hl 1 rfl) ?_
    refine lv_aload_n hx hb dX11_unwrite_99 rfl (lv_at hl 0 rfl) ?_
    refine hs_putr (C := RX11) (T := TX11) (N := 8) hx hb hts (fun w h => List.mem_cons_of_mem _ (inlX11 w h)) tyX11 tyX11_ok nmX11 hown hK.1 hP hS h43 (by decide) rfl 2 (by decide) (hts _ (List.mem_cons_of_mem _ wq18)) (fun _ h => h) (Or.inl rfl) (fun _ => rfl) (fun _ => rfl) rfl dX11_unwrite_100 (fun H locs hP hS => ?_)
    refine lv_aload_n hx hb dX11_unwrite_103 rfl (lv_at hl 1 rfl) ?_
    obtain ⟨h46, hf⟩ := hs_ck hf
    refine hs_getr (C := RX11) (T := TX11) (N := 8) hx hb hts (fun w h => List.mem_cons_of_mem _ (inlX11 w h)) hown hK.1 hP h43 (by decide) rfl 1 (by decide) (hts _ (List.mem_cons_of_mem _ wq17)) (fun _ h => h) rfl h46 dX11_unwrite_104 ?_
    obtain ⟨h47, hf⟩ := hs_ck hf
    obtain ⟨r49, g48, h50, hf⟩ := hs_bd_some hf
    cases h50
  · replace hf := hs_t hf hc
    refine lv_bipush (v := -2) hx hb dX11_unwrite_10 (by decide) ?_
    exact hs_iret hx hb hr hlocks rfl hK hP hS hf dX11_unwrite_12

theorem dX11_clear_0 : decode cX11_clear 0 = .ok (.aload_n 0, 1) := by decide +kernel
theorem dX11_clear_1 : decode cX11_clear 1 = .ok (.getfield 14, 3) := by decide +kernel
theorem dX11_clear_4 : decode cX11_clear 4 = .ok (.invokevirtual 68, 3) := by decide +kernel
theorem dX11_clear_7 : decode cX11_clear 7 = .ok (.aload_n 0, 1) := by decide +kernel
theorem dX11_clear_8 : decode cX11_clear 8 = .ok (.getfield 18, 3) := by decide +kernel
theorem dX11_clear_11 : decode cX11_clear 11 = .ok (.invokevirtual 68, 3) := by decide +kernel
theorem dX11_clear_14 : decode cX11_clear 14 = .ok (.aload_n 0, 1) := by decide +kernel
theorem dX11_clear_15 : decode cX11_clear 15 = .ok (.getfield 24, 3) := by decide +kernel
theorem dX11_clear_18 : decode cX11_clear 18 = .ok (.invokevirtual 68, 3) := by decide +kernel
theorem dX11_clear_21 : decode cX11_clear 21 = .ok (.aload_n 0, 1) := by decide +kernel
theorem dX11_clear_22 : decode cX11_clear 22 = .ok (.getfield 30, 3) := by decide +kernel
theorem dX11_clear_25 : decode cX11_clear 25 = .ok (.invokevirtual 172, 3) := by decide +kernel
theorem dX11_clear_28 : decode cX11_clear 28 = .ok (.aload_n 0, 1) := by decide +kernel
theorem dX11_clear_29 : decode cX11_clear 29 = .ok (.getfield 53, 3) := by decide +kernel
theorem dX11_clear_32 : decode cX11_clear 32 = .ok (.invokevirtual 175, 3) := by decide +kernel
theorem dX11_clear_35 : decode cX11_clear 35 = .ok (.return_, 1) := by decide +kernel
abbrev wcX11_clear : List Cond := .code yX11_clear cX11_clear 1 none :: wsL_law
def fX11_clear (v0 : Nat) (g : hs_S) : Option (hs_S) :=
  if hs_kd g v0 = 9 then
  if ¬ (hs_R g v0 0) = 0 then
  if hs_kd g ((hs_R g v0 0) - 1) = 0 then
  hs_bv (fX0_empty ((hs_R g v0 0) - 1) g) fun g4 =>
  if hs_kd g4 v0 = 9 then
  if ¬ (hs_R g4 v0 1) = 0 then
  if hs_kd g4 ((hs_R g4 v0 1) - 1) = 0 then
  hs_bv (fX0_empty ((hs_R g4 v0 1) - 1) g4) fun g10 =>
  if hs_kd g10 v0 = 9 then
  if ¬ (hs_R g10 v0 3) = 0 then
  if hs_kd g10 ((hs_R g10 v0 3) - 1) = 0 then
  hs_bv (fX0_empty ((hs_R g10 v0 3) - 1) g10) fun g16 =>
  if hs_kd g16 v0 = 9 then
  if ¬ (hs_R g16 v0 4) = 0 then
  if hs_kd g16 ((hs_R g16 v0 4) - 1) = 7 then
  hs_bv (fX8_becomeFirst ((hs_R g16 v0 4) - 1) g16) fun g22 =>
  if hs_kd g22 v0 = 9 then
  if ¬ (hs_R g22 v0 7) = 0 then
  if hs_kd g22 ((hs_R g22 v0 7) - 1) = 5 then
  hs_bv (fX6_forget ((hs_R g22 v0 7) - 1) g22) fun g28 =>
  some g28
  else none else none else none else none else none else none else none else none else none else none else none else none else none else none else none
abbrev rmX11_clear : Room := { frames := 3, cells := 0, slots := 0, locals := 63 }
set_option maxHeartbeats 4000000 in
set_option maxRecDepth 100000 in
theorem ctX11_clear (l : Launch) (B : Nat) (D : va_G) (E : Nat → ClassId) (v0 : Nat) (g : hs_S) (o : hs_S) (hf : fX11_clear v0 g = some o) : Met l yX11_clear wcX11_clear rmX11_clear (hs_Pc B D E g [.ref (B + v0)]) (hs_Qv B D E o) (0) (0) (hs_F B) := by
  refine Met.ofW (cc := cX11_clear) (maxL := 1) (ret := none) (by decide) rfl ?_
  intro p e s m args below meth c s₁ Bd hml hv
  obtain ⟨rfl, hP, hK⟩ := hv
  have hx := Bd.exec
  have hb := Bd.bytes
  have hr := Bd.returns
  have hts := atoms_spec (ws := wcX11_clear) Bd.pre
  have hown : s.vm.findClass RX11 = some m.cls := findClass_of_methodNamed Bd.named
  have hlocks := Bd.notSynchronized
  have hS : hs_Sx B s.heap s.heap [] := va_S.rf
  have hX : hs_cx cX11_clear none 1 RX11 wcX11_clear p s m (List.toArray [.ref (B + v0)]) meth c D E := ⟨hx, hb, hr, hml, hown, hts, hlocks, hK⟩
  have hl := lv_entry ([.ref (B + v0)]) (n := 1) (Nat.le_of_ble_eq_true rfl)
  rw [lg_entry_eq]
  generalize (lg_sl ([.ref (B + v0)]) ++ List.replicate (1 - (lg_sl ([.ref (B + v0)])).length) Slot.unset).toArray = ls at hl ⊢
  have hl : lv_has ls 1 [(0, .ref (B + v0))] := hl
  have hP : hs_P B D E g s.heap := hP
  unfold fX11_clear at hf
  refine lv_aload_n hx hb dX11_clear_0 rfl (lv_at hl 0 rfl) ?_
  obtain ⟨h1, hf⟩ := hs_ck hf
  obtain ⟨h2, hf⟩ := hs_ck hf
  refine hs_getr (C := RX11) (T := TX11) (N := 8) hx hb hts (fun w h => List.mem_cons_of_mem _ (inlX11 w h)) hown hK.1 hP h1 (by decide) rfl 0 (by decide) (hts _ (List.mem_cons_of_mem _ wq16)) (fun _ h => h) rfl h2 dX11_clear_1 ?_
  obtain ⟨h3, hf⟩ := hs_ck hf
  obtain ⟨g4, h6, hf⟩ := hs_bv_some hf
  refine hs_callv (va_runV (As := []) (rest := []) ⟨hx, hb, hml, hown, hts⟩ (ctX0_empty l B D E ((hs_R g v0 0) - 1) g _ h6) (cwV 0 hts (hs_gV (fun _ h => List.mem_cons_of_mem _ h) wq384 wq385 wq386 wq15 wq387) rfl rfl rfl (by decide +kernel) ⟨Nat.le_of_ble_eq_true rfl, Nat.le_of_ble_eq_true rfl⟩) (hs_preV (r := (RX0, TX0, 5)) hP hK h3 (by decide) rfl) rfl rfl hl.1 rfl (lv_room (Nat.le_of_ble_eq_true rfl)) dX11_clear_4 ⟨(Nat.le_of_ble_eq_true rfl), (Nat.le_of_ble_eq_true rfl)⟩) hS (fun H locs hP hS => ?_)
  refine lv_aload_n hx hb dX11_clear_7 rfl (lv_at hl 0 rfl) ?_
  obtain ⟨h7, hf⟩ := hs_ck hf
  obtain ⟨h8, hf⟩ := hs_ck hf
  refine hs_getr (C := RX11) (T := TX11) (N := 8) hx hb hts (fun w h => List.mem_cons_of_mem _ (inlX11 w h)) hown hK.1 hP h7 (by decide) rfl 1 (by decide) (hts _ (List.mem_cons_of_mem _ wq17)) (fun _ h => h) rfl h8 dX11_clear_8 ?_
  obtain ⟨h9, hf⟩ := hs_ck hf
  obtain ⟨g10, h12, hf⟩ := hs_bv_some hf
  refine hs_callv (va_runV (As := []) (rest := []) ⟨hx, hb, hml, hown, hts⟩ (ctX0_empty l B D E ((hs_R g4 v0 1) - 1) g4 _ h12) (cwV 0 hts (hs_gV (fun _ h => List.mem_cons_of_mem _ h) wq384 wq385 wq386 wq15 wq387) rfl rfl rfl (by decide +kernel) ⟨Nat.le_of_ble_eq_true rfl, Nat.le_of_ble_eq_true rfl⟩) (hs_preV (r := (RX0, TX0, 5)) hP hK h9 (by decide) rfl) rfl rfl hl.1 rfl (lv_room (Nat.le_of_ble_eq_true rfl)) dX11_clear_11 ⟨(Nat.le_of_ble_eq_true rfl), (Nat.le_of_ble_eq_true rfl)⟩) hS (fun H locs hP hS => ?_)
  refine lv_aload_n hx hb dX11_clear_14 rfl (lv_at hl 0 rfl) ?_
  obtain ⟨h13, hf⟩ := hs_ck hf
  obtain ⟨h14, hf⟩ := hs_ck hf
  refine hs_getr (C := RX11) (T := TX11) (N := 8) hx hb hts (fun w h => List.mem_cons_of_mem _ (inlX11 w h)) hown hK.1 hP h13 (by decide) rfl 3 (by decide) (hts _ (List.mem_cons_of_mem _ wq19)) (fun _ h => h) rfl h14 dX11_clear_15 ?_
  obtain ⟨h15, hf⟩ := hs_ck hf
  obtain ⟨g16, h18, hf⟩ := hs_bv_some hf
  refine hs_callv (va_runV (As := []) (rest := []) ⟨hx, hb, hml, hown, hts⟩ (ctX0_empty l B D E ((hs_R g10 v0 3) - 1) g10 _ h18) (cwV 0 hts (hs_gV (fun _ h => List.mem_cons_of_mem _ h) wq384 wq385 wq386 wq15 wq387) rfl rfl rfl (by decide +kernel) ⟨Nat.le_of_ble_eq_true rfl, Nat.le_of_ble_eq_true rfl⟩) (hs_preV (r := (RX0, TX0, 5)) hP hK h15 (by decide) rfl) rfl rfl hl.1 rfl (lv_room (Nat.le_of_ble_eq_true rfl)) dX11_clear_18 ⟨(Nat.le_of_ble_eq_true rfl), (Nat.le_of_ble_eq_true rfl)⟩) hS (fun H locs hP hS => ?_)
  refine lv_aload_n hx hb dX11_clear_21 rfl (lv_at hl 0 rfl) ?_
  obtain ⟨h19, hf⟩ := hs_ck hf
  obtain ⟨h20, hf⟩ := hs_ck hf
  refine hs_getr (C := RX11) (T := TX11) (N := 8) hx hb hts (fun w h => List.mem_cons_of_mem _ (inlX11 w h)) hown hK.1 hP h19 (by decide) rfl 4 (by decide) (hts _ (List.mem_cons_of_mem _ wq23)) (fun _ h => h) rfl h20 dX11_clear_22 ?_
  obtain ⟨h21, hf⟩ := hs_ck hf
  obtain ⟨g22, h24, hf⟩ := hs_bv_some hf
  refine hs_callv (va_runV (As := []) (rest := []) ⟨hx, hb, hml, hown, hts⟩ (ctX8_becomeFirst l B D E ((hs_R g16 v0 4) - 1) g16 _ h24) (cwV 0 hts (hs_gV (fun _ h => List.mem_cons_of_mem _ h) wq975 wq59 wq60 wq22 wq61) rfl rfl rfl (by decide +kernel) ⟨Nat.le_of_ble_eq_true rfl, Nat.le_of_ble_eq_true rfl⟩) (hs_preV (r := (RX8, TX8, 1)) hP hK h21 (by decide) rfl) rfl rfl hl.1 rfl (lv_room (Nat.le_of_ble_eq_true rfl)) dX11_clear_25 ⟨(Nat.le_of_ble_eq_true rfl), (Nat.le_of_ble_eq_true rfl)⟩) hS (fun H locs hP hS => ?_)
  refine lv_aload_n hx hb dX11_clear_28 rfl (lv_at hl 0 rfl) ?_
  obtain ⟨h25, hf⟩ := hs_ck hf
  obtain ⟨h26, hf⟩ := hs_ck hf
  refine hs_getr (C := RX11) (T := TX11) (N := 8) hx hb hts (fun w h => List.mem_cons_of_mem _ (inlX11 w h)) hown hK.1 hP h25 (by decide) rfl 7 (by decide) (hts _ (List.mem_cons_of_mem _ wq35)) (fun _ h => h) rfl h26 dX11_clear_29 ?_
  obtain ⟨h27, hf⟩ := hs_ck hf
  obtain ⟨g28, h30, hf⟩ := hs_bv_some hf
  refine hs_callv (va_runV (As := []) (rest := []) ⟨hx, hb, hml, hown, hts⟩ (ctX6_forget l B D E ((hs_R g22 v0 7) - 1) g22 _ h30) (cwV 0 hts (hs_gV (fun _ h => List.mem_cons_of_mem _ h) wq976 wq704 wq705 wq34 wq706) rfl rfl rfl (by decide +kernel) ⟨Nat.le_of_ble_eq_true rfl, Nat.le_of_ble_eq_true rfl⟩) (hs_preV (r := (RX6, TX6, 8)) hP hK h27 (by decide) rfl) rfl rfl hl.1 rfl (lv_room (Nat.le_of_ble_eq_true rfl)) dX11_clear_32 ⟨(Nat.le_of_ble_eq_true rfl), (Nat.le_of_ble_eq_true rfl)⟩) hS (fun H locs hP hS => ?_)
  exact hs_vret hx hb hr hlocks hK hP hS hf dX11_clear_35

