theorem dX11_unwriteMethod_0 : decode cX11_unwriteMethod 0 = .ok (.aload_n 0, 1) := by decide +kernel
theorem dX11_unwriteMethod_1 : decode cX11_unwriteMethod 1 = .ok (.getfield 44, 3) := by decide +kernel
theorem dX11_unwriteMethod_4 : decode cX11_unwriteMethod 4 = .ok (.aload_n 1, 1) := by decide +kernel
theorem dX11_unwriteMethod_5 : decode cX11_unwriteMethod 5 = .ok (.aload_n 0, 1) := by decide +kernel
theorem dX11_unwriteMethod_6 : decode cX11_unwriteMethod 6 = .ok (.getfield 30, 3) := by decide +kernel
theorem dX11_unwriteMethod_9 : decode cX11_unwriteMethod 9 = .ok (.iconst 0, 1) := by decide +kernel
theorem dX11_unwriteMethod_10 : decode cX11_unwriteMethod 10 = .ok (.invokevirtual 91, 3) := by decide +kernel
theorem dX11_unwriteMethod_13 : decode cX11_unwriteMethod 13 = .ok (.istore_n 3, 1) := by decide +kernel
theorem dX11_unwriteMethod_14 : decode cX11_unwriteMethod 14 = .ok (.aload_n 0, 1) := by decide +kernel
theorem dX11_unwriteMethod_15 : decode cX11_unwriteMethod 15 = .ok (.getfield 21, 3) := by decide +kernel
theorem dX11_unwriteMethod_18 : decode cX11_unwriteMethod 18 = .ok (.aload_n 1, 1) := by decide +kernel
theorem dX11_unwriteMethod_19 : decode cX11_unwriteMethod 19 = .ok (.getfield 178, 3) := by decide +kernel
theorem dX11_unwriteMethod_22 : decode cX11_unwriteMethod 22 = .ok (.invokevirtual 61, 3) := by decide +kernel
theorem dX11_unwriteMethod_25 : decode cX11_unwriteMethod 25 = .ok (.aload_n 0, 1) := by decide +kernel
theorem dX11_unwriteMethod_26 : decode cX11_unwriteMethod 26 = .ok (.getfield 21, 3) := by decide +kernel
theorem dX11_unwriteMethod_29 : decode cX11_unwriteMethod 29 = .ok (.aload_n 1, 1) := by decide +kernel
theorem dX11_unwriteMethod_30 : decode cX11_unwriteMethod 30 = .ok (.getfield 181, 3) := by decide +kernel
theorem dX11_unwriteMethod_33 : decode cX11_unwriteMethod 33 = .ok (.invokevirtual 61, 3) := by decide +kernel
theorem dX11_unwriteMethod_36 : decode cX11_unwriteMethod 36 = .ok (.aload_n 0, 1) := by decide +kernel
theorem dX11_unwriteMethod_37 : decode cX11_unwriteMethod 37 = .ok (.getfield 21, 3) := by decide +kernel
theorem dX11_unwriteMethod_40 : decode cX11_unwriteMethod 40 = .ok (.iload_n 3, 1) := by decide +kernel
theorem dX11_unwriteMethod_41 : decode cX11_unwriteMethod 41 = .ok (.invokevirtual 184, 3) := by decide +kernel
theorem dX11_unwriteMethod_44 : decode cX11_unwriteMethod 44 = .ok (.aload_n 0, 1) := by decide +kernel
theorem dX11_unwriteMethod_45 : decode cX11_unwriteMethod 45 = .ok (.getfield 44, 3) := by decide +kernel
theorem dX11_unwriteMethod_48 : decode cX11_unwriteMethod 48 = .ok (.aload_n 1, 1) := by decide +kernel
theorem dX11_unwriteMethod_49 : decode cX11_unwriteMethod 49 = .ok (.aload_n 0, 1) := by decide +kernel
theorem dX11_unwriteMethod_50 : decode cX11_unwriteMethod 50 = .ok (.getfield 21, 3) := by decide +kernel
theorem dX11_unwriteMethod_53 : decode cX11_unwriteMethod 53 = .ok (.aload_n 2, 1) := by decide +kernel
theorem dX11_unwriteMethod_54 : decode cX11_unwriteMethod 54 = .ok (.invokevirtual 95, 3) := by decide +kernel
theorem dX11_unwriteMethod_57 : decode cX11_unwriteMethod 57 = .ok (.aload_n 0, 1) := by decide +kernel
theorem dX11_unwriteMethod_58 : decode cX11_unwriteMethod 58 = .ok (.getfield 21, 3) := by decide +kernel
theorem dX11_unwriteMethod_61 : decode cX11_unwriteMethod 61 = .ok (.aload_n 2, 1) := by decide +kernel
theorem dX11_unwriteMethod_62 : decode cX11_unwriteMethod 62 = .ok (.getfield 115, 3) := by decide +kernel
theorem dX11_unwriteMethod_65 : decode cX11_unwriteMethod 65 = .ok (.invokevirtual 61, 3) := by decide +kernel
theorem dX11_unwriteMethod_68 : decode cX11_unwriteMethod 68 = .ok (.iconst 0, 1) := by decide +kernel
theorem dX11_unwriteMethod_69 : decode cX11_unwriteMethod 69 = .ok (.istore 4, 2) := by decide +kernel
theorem dX11_unwriteMethod_71 : decode cX11_unwriteMethod 71 = .ok (.iload 4, 2) := by decide +kernel
theorem dX11_unwriteMethod_73 : decode cX11_unwriteMethod 73 = .ok (.aload_n 2, 1) := by decide +kernel
theorem dX11_unwriteMethod_74 : decode cX11_unwriteMethod 74 = .ok (.getfield 115, 3) := by decide +kernel
theorem dX11_unwriteMethod_77 : decode cX11_unwriteMethod 77 = .ok (.if_icmp .ge 53, 3) := by decide +kernel
theorem dX11_unwriteMethod_80 : decode cX11_unwriteMethod 80 = .ok (.iconst 0, 1) := by decide +kernel
theorem dX11_unwriteMethod_81 : decode cX11_unwriteMethod 81 = .ok (.istore 5, 2) := by decide +kernel
theorem dX11_unwriteMethod_83 : decode cX11_unwriteMethod 83 = .ok (.iload 5, 2) := by decide +kernel
theorem dX11_unwriteMethod_85 : decode cX11_unwriteMethod 85 = .ok (.iconst 3, 1) := by decide +kernel
theorem dX11_unwriteMethod_86 : decode cX11_unwriteMethod 86 = .ok (.if_icmp .ge 24, 3) := by decide +kernel
theorem dX11_unwriteMethod_89 : decode cX11_unwriteMethod 89 = .ok (.aload_n 0, 1) := by decide +kernel
theorem dX11_unwriteMethod_90 : decode cX11_unwriteMethod 90 = .ok (.getfield 21, 3) := by decide +kernel
theorem dX11_unwriteMethod_93 : decode cX11_unwriteMethod 93 = .ok (.aload_n 2, 1) := by decide +kernel
theorem dX11_unwriteMethod_94 : decode cX11_unwriteMethod 94 = .ok (.iload 4, 2) := by decide +kernel
theorem dX11_unwriteMethod_96 : decode cX11_unwriteMethod 96 = .ok (.iload 5, 2) := by decide +kernel
theorem dX11_unwriteMethod_98 : decode cX11_unwriteMethod 98 = .ok (.invokevirtual 130, 3) := by decide +kernel
theorem dX11_unwriteMethod_101 : decode cX11_unwriteMethod 101 = .ok (.invokevirtual 184, 3) := by decide +kernel
theorem dX11_unwriteMethod_104 : decode cX11_unwriteMethod 104 = .ok (.iinc 5 1, 3) := by decide +kernel
theorem dX11_unwriteMethod_107 : decode cX11_unwriteMethod 107 = .ok (.goto (-24), 3) := by decide +kernel
theorem dX11_unwriteMethod_110 : decode cX11_unwriteMethod 110 = .ok (.aload_n 0, 1) := by decide +kernel
theorem dX11_unwriteMethod_111 : decode cX11_unwriteMethod 111 = .ok (.getfield 21, 3) := by decide +kernel
theorem dX11_unwriteMethod_114 : decode cX11_unwriteMethod 114 = .ok (.aload_n 2, 1) := by decide +kernel
theorem dX11_unwriteMethod_115 : decode cX11_unwriteMethod 115 = .ok (.iload 4, 2) := by decide +kernel
theorem dX11_unwriteMethod_117 : decode cX11_unwriteMethod 117 = .ok (.iconst 3, 1) := by decide +kernel
theorem dX11_unwriteMethod_118 : decode cX11_unwriteMethod 118 = .ok (.invokevirtual 130, 3) := by decide +kernel
theorem dX11_unwriteMethod_121 : decode cX11_unwriteMethod 121 = .ok (.invokevirtual 61, 3) := by decide +kernel
theorem dX11_unwriteMethod_124 : decode cX11_unwriteMethod 124 = .ok (.iinc 4 1, 3) := by decide +kernel
theorem dX11_unwriteMethod_127 : decode cX11_unwriteMethod 127 = .ok (.goto (-56), 3) := by decide +kernel
theorem dX11_unwriteMethod_130 : decode cX11_unwriteMethod 130 = .ok (.return_, 1) := by decide +kernel
abbrev wcX11_unwriteMethod : List Cond := .code yX11_unwriteMethod cX11_unwriteMethod 6 none :: wsL_law
def lX11_unwriteMethod_83 : Nat → Nat → Nat → Int32 → Int32 → hs_S → Option (hs_S)
  | 0, _, _, _, _, _ => none
  | n + 1, v0, v2, v4, v5, g =>
    if (3 : Int32) ≤ v5 then (
      some g
    ) else (
      if hs_kd g v0 = 9 then
      if ¬ (hs_R g v0 2) = 0 then
      if hs_kd g v2 = 6 then
      hs_bd (fX7_handlerNumber v2 v4 v5 g) fun r47 g46 =>
      if hs_kd g46 ((hs_R g v0 2) - 1) = 0 then
      hs_bv (fX0_appendPair ((hs_R g v0 2) - 1) r47 g46) fun g50 =>
      lX11_unwriteMethod_83 n v0 v2 v4 (v5 + (1 : Int32)) g50
      else none else none else none else none
    )
theorem lX11_unwriteMethod_83_s (n : Nat) (v0 : Nat) (v2 : Nat) (v4 : Int32) (v5 : Int32) (g : hs_S) : lX11_unwriteMethod_83 (n + 1) v0 v2 v4 v5 g =
    if (3 : Int32) ≤ v5 then (
      some g
    ) else (
      if hs_kd g v0 = 9 then
      if ¬ (hs_R g v0 2) = 0 then
      if hs_kd g v2 = 6 then
      hs_bd (fX7_handlerNumber v2 v4 v5 g) fun r47 g46 =>
      if hs_kd g46 ((hs_R g v0 2) - 1) = 0 then
      hs_bv (fX0_appendPair ((hs_R g v0 2) - 1) r47 g46) fun g50 =>
      lX11_unwriteMethod_83 n v0 v2 v4 (v5 + (1 : Int32)) g50
      else none else none else none else none
    ) := rfl
def lX11_unwriteMethod_71 : Nat → Nat → Nat → Int32 → hs_S → Option (hs_S)
  | 0, _, _, _, _ => none
  | n + 1, v0, v2, v4, g =>
    if hs_kd g v2 = 6 then
    if (hs_I g v2 6) ≤ v4 then (
      some g
    ) else (
      hs_bv (lX11_unwriteMethod_83 hs_N v0 v2 v4 (0 : Int32) g) fun g54 =>
      if hs_kd g54 v0 = 9 then
      if ¬ (hs_R g54 v0 2) = 0 then
      if hs_kd g54 v2 = 6 then
      hs_bd (fX7_handlerNumber v2 v4 (3 : Int32) g54) fun r60 g59 =>
      if hs_kd g59 ((hs_R g54 v0 2) - 1) = 0 then
      hs_bv (fX0_append ((hs_R g54 v0 2) - 1) r60 g59) fun g63 =>
      lX11_unwriteMethod_71 n v0 v2 (v4 + (1 : Int32)) g63
      else none else none else none else none
    )
    else none
theorem lX11_unwriteMethod_71_s (n : Nat) (v0 : Nat) (v2 : Nat) (v4 : Int32) (g : hs_S) : lX11_unwriteMethod_71 (n + 1) v0 v2 v4 g =
    if hs_kd g v2 = 6 then
    if (hs_I g v2 6) ≤ v4 then (
      some g
    ) else (
      hs_bv (lX11_unwriteMethod_83 hs_N v0 v2 v4 (0 : Int32) g) fun g54 =>
      if hs_kd g54 v0 = 9 then
      if ¬ (hs_R g54 v0 2) = 0 then
      if hs_kd g54 v2 = 6 then
      hs_bd (fX7_handlerNumber v2 v4 (3 : Int32) g54) fun r60 g59 =>
      if hs_kd g59 ((hs_R g54 v0 2) - 1) = 0 then
      hs_bv (fX0_append ((hs_R g54 v0 2) - 1) r60 g59) fun g63 =>
      lX11_unwriteMethod_71 n v0 v2 (v4 + (1 : Int32)) g63
      else none else none else none else none
    )
    else none := rfl
def fX11_unwriteMethod (v0 : Nat) (v1 : Nat) (v2 : Nat) (g : hs_S) : Option (hs_S) :=
  if hs_kd g v0 = 9 then
  if ¬ (hs_R g v0 6) = 0 then
  if ¬ (hs_R g v0 4) = 0 then
  if hs_kd g ((hs_R g v0 6) - 1) = 4 then
  hs_bd (fX5_plan ((hs_R g v0 6) - 1) v1 ((hs_R g v0 4) - 1) (0 : Int32) g) fun r6 g5 =>
  if hs_kd g5 v0 = 9 then
  if ¬ (hs_R g5 v0 2) = 0 then
  if hs_kd g5 v1 = 6 then
  if hs_kd g5 ((hs_R g5 v0 2) - 1) = 0 then
  hs_bv (fX0_append ((hs_R g5 v0 2) - 1) (hs_I g5 v1 4) g5) fun g12 =>
  if hs_kd g12 v0 = 9 then
  if ¬ (hs_R g12 v0 2) = 0 then
  if hs_kd g12 v1 = 6 then
  if hs_kd g12 ((hs_R g12 v0 2) - 1) = 0 then
  hs_bv (fX0_append ((hs_R g12 v0 2) - 1) (hs_I g12 v1 5) g12) fun g19 =>
  if hs_kd g19 v0 = 9 then
  if ¬ (hs_R g19 v0 2) = 0 then
  if hs_kd g19 ((hs_R g19 v0 2) - 1) = 0 then
  hs_bv (fX0_appendPair ((hs_R g19 v0 2) - 1) r6 g19) fun g25 =>
  if hs_kd g25 v0 = 9 then
  if ¬ (hs_R g25 v0 6) = 0 then
  if ¬ (hs_R g25 v0 2) = 0 then
  if hs_kd g25 ((hs_R g25 v0 6) - 1) = 4 then
  hs_bv (fX5_write ((hs_R g25 v0 6) - 1) v1 ((hs_R g25 v0 2) - 1) v2 g25) fun g32 =>
  if hs_kd g32 v0 = 9 then
  if ¬ (hs_R g32 v0 2) = 0 then
  if hs_kd g32 v2 = 6 then
  if hs_kd g32 ((hs_R g32 v0 2) - 1) = 0 then
  hs_bv (fX0_append ((hs_R g32 v0 2) - 1) (hs_I g32 v2 6) g32) fun g39 =>
  hs_bv (lX11_unwriteMethod_71 hs_N v0 v2 (0 : Int32) g39) fun g67 =>
  some g67
  else none else none else none else none else none else none else none else none else none else none else none else none else none else none else none else none else none else none else none else none else none else none else none
abbrev rmX11_unwriteMethod : Room := { frames := 6, cells := 0, slots := 0, locals := 141 }
set_option maxHeartbeats 4000000 in
set_option maxRecDepth 100000 in
theorem wX11_unwriteMethod_83 {p : Program} {l : Launch} {e : Env} {s : State} {m : MethodId} {args : Array Value} {below : List Frame} {meth : Method} {c : Code} {B : Nat} {D : va_G} {E : Nat → ClassId} (hX : hs_cx cX11_unwriteMethod none 6 RX11 wcX11_unwriteMethod p s m args meth c D E) {Q : State → Prop} {o : hs_S} {v0 : Nat} {v2 : Nat} {v4 : Int32} (hex0 : ∀ (H : Heap) (locs : List Loc) (ls : Array Slot), hs_P B D E (o) H → hs_Sx B s.heap H locs → lv_has ls 6 [(0, .ref (B + v0)), (2, .ref (B + v2)), (4, .int v4)] → W p l e rmX11_unwriteMethod s m args below meth c H locs 0 0 Q (F0 m 110 ls [])) : ∀ (n : Nat) (v5 : Int32) (g : hs_S), lX11_unwriteMethod_83 n v0 v2 v4 v5 g = some o → ∀ (H : Heap) (locs : List Loc) (ls : Array Slot), hs_P B D E g H → hs_Sx B s.heap H locs → lv_has ls 6 [(0, .ref (B + v0)), (2, .ref (B + v2)), (4, .int v4), (5, .int v5)] → W p l e rmX11_unwriteMethod s m args below meth c H locs 0 0 Q (F0 m 83 ls []) := by
  obtain ⟨hx, hb, hr, hml, hown, hts, hlocks, hK⟩ := id hX
  intro n
  induction n with
  | zero =>
    intro v5 g hf
    cases hf
  | succ n ih =>
    intro v5 g hf H locs ls hP hS hl
    replace hf := (lX11_unwriteMethod_83_s n v0 v2 v4 v5 g).symm.trans hf
    refine lv_iload hx hb dX11_unwriteMethod_83 (lv_at hl 3 rfl) ?_
    refine lv_iconst (v := 3) hx hb dX11_unwriteMethod_85 (by decide) ?_
    refine lv_icmp_ge (tgt := 110) hx hb dX11_unwriteMethod_86 (by decide) (fun hc => ?_) (fun hc => ?_)
    · replace hf := hs_t hf hc
      obtain rfl := Option.some.inj hf
      exact hex0 _ _ _ hP hS (lv_sub hl [0, 1, 2] rfl)
    · replace hf := hs_f hf hc
      refine lv_aload_n hx hb dX11_unwriteMethod_89 rfl (lv_at hl 0 rfl) ?_
      obtain ⟨h43, hf⟩ := hs_ck hf
      obtain ⟨h44, hf⟩ := hs_ck hf
      refine hs_getr (C := RX11) (T := TX11) (N := 8) hx hb hts (fun w h => List.mem_cons_of_mem _ (inlX11 w h)) hown hK.1 hP h43 (by decide) rfl 2 (by decide) (hts _ (List.mem_cons_of_mem _ wq18)) (fun _ h => h) rfl h44 dX11_unwriteMethod_90 ?_
      refine lv_aload_n hx hb dX11_unwriteMethod_93 rfl (lv_at hl 1 rfl) ?_
      refine lv_iload hx hb dX11_unwriteMethod_94 (lv_at hl 2 rfl) ?_
      refine lv_iload hx hb dX11_unwriteMethod_96 (lv_at hl 3 rfl) ?_
      obtain ⟨h45, hf⟩ := hs_ck hf
      obtain ⟨r47, g46, h48, hf⟩ := hs_bd_some hf
      refine hs_calli (va_runV (As := [.int v4, .int v5]) (rest := [.ref (B + ((hs_R g v0 2) - 1))]) ⟨hx, hb, hml, hown, hts⟩ (ctX7_handlerNumber l B D E v2 v4 v5 g _ h48) (cwV 2 hts (hs_gV (fun _ h => List.mem_cons_of_mem _ h) wq671 wq322 wq323 wq43 wq324) rfl rfl rfl (by decide +kernel) ⟨Nat.le_of_ble_eq_true rfl, Nat.le_of_ble_eq_true rfl⟩) (hs_preV (r := (RX7, TX7, 11)) hP hK h45 (by decide) rfl) rfl rfl hl.1 rfl (lv_room (Nat.le_of_ble_eq_true rfl)) dX11_unwriteMethod_98 ⟨(Nat.le_of_ble_eq_true rfl), (Nat.le_of_ble_eq_true rfl)⟩) hS (fun H locs hP hS => ?_)
      obtain ⟨h49, hf⟩ := hs_ck hf
      obtain ⟨g50, h52, hf⟩ := hs_bv_some hf
      refine hs_callv (va_runV (As := [.int r47]) (rest := []) ⟨hx, hb, hml, hown, hts⟩ (ctX0_appendPair l B D E ((hs_R g v0 2) - 1) r47 g46 _ h52) (cwV 1 hts (hs_gV (fun _ h => List.mem_cons_of_mem _ h) wq966 wq564 wq565 wq15 wq566) rfl rfl rfl (by decide +kernel) ⟨Nat.le_of_ble_eq_true rfl, Nat.le_of_ble_eq_true rfl⟩) (hs_preV (r := (RX0, TX0, 5)) hP hK h49 (by decide) rfl) rfl rfl hl.1 rfl (lv_room (Nat.le_of_ble_eq_true rfl)) dX11_unwriteMethod_101 ⟨(Nat.le_of_ble_eq_true rfl), (Nat.le_of_ble_eq_true rfl)⟩) hS (fun H locs hP hS => ?_)
      refine lv_iinc (v := (v5 + (1 : Int32))) (lv' := [(5, .int (v5 + (1 : Int32))), (0, .ref (B + v0)), (2, .ref (B + v2)), (4, .int v4)]) hx hb dX11_unwriteMethod_104 hl (k := 3) rfl (by rfl) (by decide) rfl (fun ls hl => ?_)
      refine lv_goto (tgt := 83) hx hb dX11_unwriteMethod_107 (by decide) ?_
      exact ih _ _ hf _ _ _ hP hS (lv_sub hl [1, 2, 3, 0] rfl)

set_option maxHeartbeats 4000000 in
set_option maxRecDepth 100000 in
theorem wX11_unwriteMethod_71 {p : Program} {l : Launch} {e : Env} {s : State} {m : MethodId} {args : Array Value} {below : List Frame} {meth : Method} {c : Code} {B : Nat} {D : va_G} {E : Nat → ClassId} (hX : hs_cx cX11_unwriteMethod none 6 RX11 wcX11_unwriteMethod p s m args meth c D E) {Q : State → Prop} {o : hs_S} {v0 : Nat} {v2 : Nat} (hex0 : ∀ (H : Heap) (locs : List Loc) (ls : Array Slot), hs_P B D E (o) H → hs_Sx B s.heap H locs → lv_has ls 6 [] → W p l e rmX11_unwriteMethod s m args below meth c H locs 0 0 Q (F0 m 130 ls [])) : ∀ (n : Nat) (v4 : Int32) (g : hs_S), lX11_unwriteMethod_71 n v0 v2 v4 g = some o → ∀ (H : Heap) (locs : List Loc) (ls : Array Slot), hs_P B D E g H → hs_Sx B s.heap H locs → lv_has ls 6 [(0, .ref (B + v0)), (2, .ref (B + v2)), (4, .int v4)] → W p l e rmX11_unwriteMethod s m args below meth c H locs 0 0 Q (F0 m 71 ls []) := by
  obtain ⟨hx, hb, hr, hml, hown, hts, hlocks, hK⟩ := id hX
  intro n
  induction n with
  | zero =>
    intro v4 g hf
    cases hf
  | succ n ih =>
    intro v4 g hf H locs ls hP hS hl
    replace hf := (lX11_unwriteMethod_71_s n v0 v2 v4 g).symm.trans hf
    refine lv_iload hx hb dX11_unwriteMethod_71 (lv_at hl 2 rfl) ?_
    refine lv_aload_n hx hb dX11_unwriteMethod_73 rfl (lv_at hl 1 rfl) ?_
    obtain ⟨h42, hf⟩ := hs_ck hf
    refine hs_geti (C := RX7) (T := TX7) (N := 11) hx hb hts (fun w h => List.mem_cons_of_mem _ (inlX7 w h)) hown hK.1 hP h42 (by decide) rfl 6 (by decide) (hts _ (List.mem_cons_of_mem _ wq637)) (fun _ h => h) rfl dX11_unwriteMethod_74 ?_
    refine lv_icmp_ge (tgt := 130) hx hb dX11_unwriteMethod_77 (by decide) (fun hc => ?_) (fun hc => ?_)
    · replace hf := hs_t hf hc
      obtain rfl := Option.some.inj hf
      exact hex0 _ _ _ hP hS (lv_sub hl [] rfl)
    · replace hf := hs_f hf hc
      refine lv_iconst (v := 0) hx hb dX11_unwriteMethod_80 (by decide) ?_
      refine lv_istore (lv' := [(5, .int (0 : Int32)), (0, .ref (B + v0)), (2, .ref (B + v2)), (4, .int v4)]) hx hb dX11_unwriteMethod_81 hl (by decide) rfl (fun ls hl => ?_)
      obtain ⟨g54, h55, hf⟩ := hs_bv_some hf
      refine wX11_unwriteMethod_83 hX (fun H locs ls hP hS hl => ?_) hs_N _ _ h55 _ _ _ hP hS (lv_sub hl [1, 2, 3, 0] rfl)
      refine lv_aload_n hx hb dX11_unwriteMethod_110 rfl (lv_at hl 0 rfl) ?_
      obtain ⟨h56, hf⟩ := hs_ck hf
      obtain ⟨h57, hf⟩ := hs_ck hf
      refine hs_getr (C := RX11) (T := TX11) (N := 8) hx hb hts (fun w h => List.mem_cons_of_mem _ (inlX11 w h)) hown hK.1 hP h56 (by decide) rfl 2 (by decide) (hts _ (List.mem_cons_of_mem _ wq18)) (fun _ h => h) rfl h57 dX11_unwriteMethod_111 ?_
      refine lv_aload_n hx hb dX11_unwriteMethod_114 rfl (lv_at hl 1 rfl) ?_
      refine lv_iload hx hb dX11_unwriteMethod_115 (lv_at hl 2 rfl) ?_
      refine lv_iconst (v := 3) hx hb dX11_unwriteMethod_117 (by decide) ?_
      obtain ⟨h58, hf⟩ := hs_ck hf
      obtain ⟨r60, g59, h61, hf⟩ := hs_bd_some hf
      refine hs_calli (va_runV (As := [.int v4, .int (3 : Int32)]) (rest := [.ref (B + ((hs_R g54 v0 2) - 1))]) ⟨hx, hb, hml, hown, hts⟩ (ctX7_handlerNumber l B D E v2 v4 (3 : Int32) g54 _ h61) (cwV 2 hts (hs_gV (fun _ h => List.mem_cons_of_mem _ h) wq671 wq322 wq323 wq43 wq324) rfl rfl rfl (by decide +kernel) ⟨Nat.le_of_ble_eq_true rfl, Nat.le_of_ble_eq_true rfl⟩) (hs_preV (r := (RX7, TX7, 11)) hP hK h58 (by decide) rfl) rfl rfl hl.1 rfl (lv_room (Nat.le_of_ble_eq_true rfl)) dX11_unwriteMethod_118 ⟨(Nat.le_of_ble_eq_true rfl), (Nat.le_of_ble_eq_true rfl)⟩) hS (fun H locs hP hS => ?_)
      obtain ⟨h62, hf⟩ := hs_ck hf
      obtain ⟨g63, h65, hf⟩ := hs_bv_some hf
      refine hs_callv (va_runV (As := [.int r60]) (rest := []) ⟨hx, hb, hml, hown, hts⟩ (ctX0_append l B D E ((hs_R g54 v0 2) - 1) r60 g59 _ h65) (cwV 1 hts (hs_gV (fun _ h => List.mem_cons_of_mem _ h) wq166 wq167 wq168 wq15 wq169) rfl rfl rfl (by decide +kernel) ⟨Nat.le_of_ble_eq_true rfl, Nat.le_of_ble_eq_true rfl⟩) (hs_preV (r := (RX0, TX0, 5)) hP hK h62 (by decide) rfl) rfl rfl hl.1 rfl (lv_room (Nat.le_of_ble_eq_true rfl)) dX11_unwriteMethod_121 ⟨(Nat.le_of_ble_eq_true rfl), (Nat.le_of_ble_eq_true rfl)⟩) hS (fun H locs hP hS => ?_)
      refine lv_iinc (v := (v4 + (1 : Int32))) (lv' := [(4, .int (v4 + (1 : Int32))), (0, .ref (B + v0)), (2, .ref (B + v2))]) hx hb dX11_unwriteMethod_124 hl (k := 2) rfl (by rfl) (by decide) rfl (fun ls hl => ?_)
      refine lv_goto (tgt := 71) hx hb dX11_unwriteMethod_127 (by decide) ?_
      exact ih _ _ hf _ _ _ hP hS (lv_sub hl [1, 2, 0] rfl)

set_option maxHeartbeats 4000000 in
set_option maxRecDepth 100000 in
theorem ctX11_unwriteMethod (l : Launch) (B : Nat) (D : va_G) (E : Nat → ClassId) (v0 : Nat) (v1 : Nat) (v2 : Nat) (g : hs_S) (o : hs_S) (hf : fX11_unwriteMethod v0 v1 v2 g = some o) : Met l yX11_unwriteMethod wcX11_unwriteMethod rmX11_unwriteMethod (hs_Pc B D E g [.ref (B + v0), .ref (B + v1), .ref (B + v2)]) (hs_Qv B D E o) (0) (0) (hs_F B) := by
  refine Met.ofW (cc := cX11_unwriteMethod) (maxL := 6) (ret := none) (by decide) rfl ?_
  intro p e s m args below meth c s₁ Bd hml hv
  obtain ⟨rfl, hP, hK⟩ := hv
  have hx := Bd.exec
  have hb := Bd.bytes
  have hr := Bd.returns
  have hts := atoms_spec (ws := wcX11_unwriteMethod) Bd.pre
  have hown : s.vm.findClass RX11 = some m.cls := findClass_of_methodNamed Bd.named
  have hlocks := Bd.notSynchronized
  have hS : hs_Sx B s.heap s.heap [] := va_S.rf
  have hX : hs_cx cX11_unwriteMethod none 6 RX11 wcX11_unwriteMethod p s m (List.toArray [.ref (B + v0), .ref (B + v1), .ref (B + v2)]) meth c D E := ⟨hx, hb, hr, hml, hown, hts, hlocks, hK⟩
  have hl := lv_entry ([.ref (B + v0), .ref (B + v1), .ref (B + v2)]) (n := 6) (Nat.le_of_ble_eq_true rfl)
  rw [lg_entry_eq]
  generalize (lg_sl ([.ref (B + v0), .ref (B + v1), .ref (B + v2)]) ++ List.replicate (6 - (lg_sl ([.ref (B + v0), .ref (B + v1), .ref (B + v2)])).length) Slot.unset).toArray = ls at hl ⊢
  have hl : lv_has ls 6 [(0, .ref (B + v0)), (1, .ref (B + v1)), (2, .ref (B + v2))] := hl
  have hP : hs_P B D E g s.heap := hP
  unfold fX11_unwriteMethod at hf
  refine lv_aload_n hx hb dX11_unwriteMethod_0 rfl (lv_at hl 0 rfl) ?_
  obtain ⟨h1, hf⟩ := hs_ck hf
  obtain ⟨h2, hf⟩ := hs_ck hf
  refine hs_getr (C := RX11) (T := TX11) (N := 8) hx hb hts (fun w h => List.mem_cons_of_mem _ (inlX11 w h)) hown hK.1 hP h1 (by decide) rfl 6 (by decide) (hts _ (List.mem_cons_of_mem _ wq31)) (fun _ h => h) rfl h2 dX11_unwriteMethod_1 ?_
  refine lv_aload_n hx hb dX11_unwriteMethod_4 rfl (lv_at hl 1 rfl) ?_
  refine lv_aload_n hx hb dX11_unwriteMethod_5 rfl (lv_at hl 0 rfl) ?_
  obtain ⟨h3, hf⟩ := hs_ck hf
  refine hs_getr (C := RX11) (T := TX11) (N := 8) hx hb hts (fun w h => List.mem_cons_of_mem _ (inlX11 w h)) hown hK.1 hP h1 (by decide) rfl 4 (by decide) (hts _ (List.mem_cons_of_mem _ wq23)) (fun _ h => h) rfl h3 dX11_unwriteMethod_6 ?_
  refine lv_iconst (v := 0) hx hb dX11_unwriteMethod_9 (by decide) ?_
  obtain ⟨h4, hf⟩ := hs_ck hf
  obtain ⟨r6, g5, h7, hf⟩ := hs_bd_some hf
  refine hs_calli (va_runV (As := [.ref (B + v1), .ref (B + ((hs_R g v0 4) - 1)), .int (0 : Int32)]) (rest := []) ⟨hx, hb, hml, hown, hts⟩ (ctX5_plan l B D E ((hs_R g v0 6) - 1) v1 ((hs_R g v0 4) - 1) (0 : Int32) g _ h7) (cwV 3 hts (hs_gV (fun _ h => List.mem_cons_of_mem _ h) wq489 wq490 wq491 wq30 wq492) rfl rfl rfl (by decide +kernel) ⟨Nat.le_of_ble_eq_true rfl, Nat.le_of_ble_eq_true rfl⟩) (hs_preV (r := (RX5, TX5, 5)) hP hK h4 (by decide) rfl) rfl rfl hl.1 rfl (lv_room (Nat.le_of_ble_eq_true rfl)) dX11_unwriteMethod_10 ⟨(Nat.le_of_ble_eq_true rfl), (Nat.le_of_ble_eq_true rfl)⟩) hS (fun H locs hP hS => ?_)
  refine lv_istore_n (lv' := [(3, .int r6), (0, .ref (B + v0)), (1, .ref (B + v1)), (2, .ref (B + v2))]) hx hb dX11_unwriteMethod_13 rfl hl (by decide) rfl (fun ls hl => ?_)
  refine lv_aload_n hx hb dX11_unwriteMethod_14 rfl (lv_at hl 1 rfl) ?_
  obtain ⟨h8, hf⟩ := hs_ck hf
  obtain ⟨h9, hf⟩ := hs_ck hf
  refine hs_getr (C := RX11) (T := TX11) (N := 8) hx hb hts (fun w h => List.mem_cons_of_mem _ (inlX11 w h)) hown hK.1 hP h8 (by decide) rfl 2 (by decide) (hts _ (List.mem_cons_of_mem _ wq18)) (fun _ h => h) rfl h9 dX11_unwriteMethod_15 ?_
  refine lv_aload_n hx hb dX11_unwriteMethod_18 rfl (lv_at hl 2 rfl) ?_
  obtain ⟨h10, hf⟩ := hs_ck hf
  refine hs_geti (C := RX7) (T := TX7) (N := 11) hx hb hts (fun w h => List.mem_cons_of_mem _ (inlX7 w h)) hown hK.1 hP h10 (by decide) rfl 4 (by decide) (hts _ (List.mem_cons_of_mem _ wq964)) (fun _ h => h) rfl dX11_unwriteMethod_19 ?_
  obtain ⟨h11, hf⟩ := hs_ck hf
  obtain ⟨g12, h14, hf⟩ := hs_bv_some hf
  refine hs_callv (va_runV (As := [.int (hs_I g5 v1 4)]) (rest := []) ⟨hx, hb, hml, hown, hts⟩ (ctX0_append l B D E ((hs_R g5 v0 2) - 1) (hs_I g5 v1 4) g5 _ h14) (cwV 1 hts (hs_gV (fun _ h => List.mem_cons_of_mem _ h) wq166 wq167 wq168 wq15 wq169) rfl rfl rfl (by decide +kernel) ⟨Nat.le_of_ble_eq_true rfl, Nat.le_of_ble_eq_true rfl⟩) (hs_preV (r := (RX0, TX0, 5)) hP hK h11 (by decide) rfl) rfl rfl hl.1 rfl (lv_room (Nat.le_of_ble_eq_true rfl)) dX11_unwriteMethod_22 ⟨(Nat.le_of_ble_eq_true rfl), (Nat.le_of_ble_eq_true rfl)⟩) hS (fun H locs hP hS => ?_)
  refine lv_aload_n hx hb dX11_unwriteMethod_25 rfl (lv_at hl 1 rfl) ?_
  obtain ⟨h15, hf⟩ := hs_ck hf
  obtain ⟨h16, hf⟩ := hs_ck hf
  refine hs_getr (C := RX11) (T := TX11) (N := 8) hx hb hts (fun w h => List.mem_cons_of_mem _ (inlX11 w h)) hown hK.1 hP h15 (by decide) rfl 2 (by decide) (hts _ (List.mem_cons_of_mem _ wq18)) (fun _ h => h) rfl h16 dX11_unwriteMethod_26 ?_
  refine lv_aload_n hx hb dX11_unwriteMethod_29 rfl (lv_at hl 2 rfl) ?_
  obtain ⟨h17, hf⟩ := hs_ck hf
  refine hs_geti (C := RX7) (T := TX7) (N := 11) hx hb hts (fun w h => List.mem_cons_of_mem _ (inlX7 w h)) hown hK.1 hP h17 (by decide) rfl 5 (by decide) (hts _ (List.mem_cons_of_mem _ wq965)) (fun _ h => h) rfl dX11_unwriteMethod_30 ?_
  obtain ⟨h18, hf⟩ := hs_ck hf
  obtain ⟨g19, h21, hf⟩ := hs_bv_some hf
  refine hs_callv (va_runV (As := [.int (hs_I g12 v1 5)]) (rest := []) ⟨hx, hb, hml, hown, hts⟩ (ctX0_append l B D E ((hs_R g12 v0 2) - 1) (hs_I g12 v1 5) g12 _ h21) (cwV 1 hts (hs_gV (fun _ h => List.mem_cons_of_mem _ h) wq166 wq167 wq168 wq15 wq169) rfl rfl rfl (by decide +kernel) ⟨Nat.le_of_ble_eq_true rfl, Nat.le_of_ble_eq_true rfl⟩) (hs_preV (r := (RX0, TX0, 5)) hP hK h18 (by decide) rfl) rfl rfl hl.1 rfl (lv_room (Nat.le_of_ble_eq_true rfl)) dX11_unwriteMethod_33 ⟨(Nat.le_of_ble_eq_true rfl), (Nat.le_of_ble_eq_true rfl)⟩) hS (fun H locs hP hS => ?_)
  refine lv_aload_n hx hb dX11_unwriteMethod_36 rfl (lv_at hl 1 rfl) ?_
  obtain ⟨h22, hf⟩ := hs_ck hf
  obtain ⟨h23, hf⟩ := hs_ck hf
  refine hs_getr (C := RX11) (T := TX11) (N := 8) hx hb hts (fun w h => List.mem_cons_of_mem _ (inlX11 w h)) hown hK.1 hP h22 (by decide) rfl 2 (by decide) (hts _ (List.mem_cons_of_mem _ wq18)) (fun _ h => h) rfl h23 dX11_unwriteMethod_37 ?_
  refine lv_iload_n hx hb dX11_unwriteMethod_40 rfl (lv_at hl 0 rfl) ?_
  obtain ⟨h24, hf⟩ := hs_ck hf
  obtain ⟨g25, h27, hf⟩ := hs_bv_some hf
  refine hs_callv (va_runV (As := [.int r6]) (rest := []) ⟨hx, hb, hml, hown, hts⟩ (ctX0_appendPair l B D E ((hs_R g19 v0 2) - 1) r6 g19 _ h27) (cwV 1 hts (hs_gV (fun _ h => List.mem_cons_of_mem _ h) wq966 wq564 wq565 wq15 wq566) rfl rfl rfl (by decide +kernel) ⟨Nat.le_of_ble_eq_true rfl, Nat.le_of_ble_eq_true rfl⟩) (hs_preV (r := (RX0, TX0, 5)) hP hK h24 (by decide) rfl) rfl rfl hl.1 rfl (lv_room (Nat.le_of_ble_eq_true rfl)) dX11_unwriteMethod_41 ⟨(Nat.le_of_ble_eq_true rfl), (Nat.le_of_ble_eq_true rfl)⟩) hS (fun H locs hP hS => ?_)
  refine lv_aload_n hx hb dX11_unwriteMethod_44 rfl (lv_at hl 1 rfl) ?_
  obtain ⟨h28, hf⟩ := hs_ck hf
  obtain ⟨h29, hf⟩ := hs_ck hf
  refine hs_getr (C := RX11) (T := TX11) (N := 8) hx hb hts (fun w h => List.mem_cons_of_mem _ (inlX11 w h)) hown hK.1 hP h28 (by decide) rfl 6 (by decide) (hts _ (List.mem_cons_of_mem _ wq31)) (fun _ h => h) rfl h29 dX11_unwriteMethod_45 ?_
  refine lv_aload_n hx hb dX11_unwriteMethod_48 rfl (lv_at hl 2 rfl) ?_
  refine lv_aload_n hx hb dX11_unwriteMethod_49 rfl (lv_at hl 1 rfl) ?_
  obtain ⟨h30, hf⟩ := hs_ck hf
  refine hs_getr (C := RX11) (T := TX11) (N := 8) hx hb hts (fun w h => List.mem_cons_of_mem _ (inlX11 w h)) hown hK.1 hP h28 (by decide) rfl 2 (by decide) (hts _ (List.mem_cons_of_mem _ wq18)) (fun _ h => h) rfl h30 dX11_unwriteMethod_50 ?_
  refine lv_aload_n hx hb dX11_unwriteMethod_53 rfl (lv_at hl 3 rfl) ?_
  obtain ⟨h31, hf⟩ := hs_ck hf
  obtain ⟨g32, h34, hf⟩ := hs_bv_some hf
  refine hs_callv (va_runV (As := [.ref (B + v1), .ref (B + ((hs_R g25 v0 2) - 1)), .ref (B + v2)]) (rest := []) ⟨hx, hb, hml, hown, hts⟩ (ctX5_write l B D E ((hs_R g25 v0 6) - 1) v1 ((hs_R g25 v0 2) - 1) v2 g25 _ h34) (cwV 3 hts (hs_gV (fun _ h => List.mem_cons_of_mem _ h) wq548 wq549 wq550 wq30 wq551) rfl rfl rfl (by decide +kernel) ⟨Nat.le_of_ble_eq_true rfl, Nat.le_of_ble_eq_true rfl⟩) (hs_preV (r := (RX5, TX5, 5)) hP hK h31 (by decide) rfl) rfl rfl hl.1 rfl (lv_room (Nat.le_of_ble_eq_true rfl)) dX11_unwriteMethod_54 ⟨(Nat.le_of_ble_eq_true rfl), (Nat.le_of_ble_eq_true rfl)⟩) hS (fun H locs hP hS => ?_)
  refine lv_aload_n hx hb dX11_unwriteMethod_57 rfl (lv_at hl 1 rfl) ?_
  obtain ⟨h35, hf⟩ := hs_ck hf
  obtain ⟨h36, hf⟩ := hs_ck hf
  refine hs_getr (C := RX11) (T := TX11) (N := 8) hx hb hts (fun w h => List.mem_cons_of_mem _ (inlX11 w h)) hown hK.1 hP h35 (by decide) rfl 2 (by decide) (hts _ (List.mem_cons_of_mem _ wq18)) (fun _ h => h) rfl h36 dX11_unwriteMethod_58 ?_
  refine lv_aload_n hx hb dX11_unwriteMethod_61 rfl (lv_at hl 3 rfl) ?_
  obtain ⟨h37, hf⟩ := hs_ck hf
  refine hs_geti (C := RX7) (T := TX7) (N := 11) hx hb hts (fun w h => List.mem_cons_of_mem _ (inlX7 w h)) hown hK.1 hP h37 (by decide) rfl 6 (by decide) (hts _ (List.mem_cons_of_mem _ wq637)) (fun _ h => h) rfl dX11_unwriteMethod_62 ?_
  obtain ⟨h38, hf⟩ := hs_ck hf
  obtain ⟨g39, h41, hf⟩ := hs_bv_some hf
  refine hs_callv (va_runV (As := [.int (hs_I g32 v2 6)]) (rest := []) ⟨hx, hb, hml, hown, hts⟩ (ctX0_append l B D E ((hs_R g32 v0 2) - 1) (hs_I g32 v2 6) g32 _ h41) (cwV 1 hts (hs_gV (fun _ h => List.mem_cons_of_mem _ h) wq166 wq167 wq168 wq15 wq169) rfl rfl rfl (by decide +kernel) ⟨Nat.le_of_ble_eq_true rfl, Nat.le_of_ble_eq_true rfl⟩) (hs_preV (r := (RX0, TX0, 5)) hP hK h38 (by decide) rfl) rfl rfl hl.1 rfl (lv_room (Nat.le_of_ble_eq_true rfl)) dX11_unwriteMethod_65 ⟨(Nat.le_of_ble_eq_true rfl), (Nat.le_of_ble_eq_true rfl)⟩) hS (fun H locs hP hS => ?_)
  refine lv_iconst (v := 0) hx hb dX11_unwriteMethod_68 (by decide) ?_
  refine lv_istore (lv' := [(4, .int (0 : Int32)), (3, .int r6), (0, .ref (B + v0)), (1, .ref (B + v1)), (2, .ref (B + v2))]) hx hb dX11_unwriteMethod_69 hl (by decide) rfl (fun ls hl => ?_)
  obtain ⟨g67, h68, hf⟩ := hs_bv_some hf
  refine wX11_unwriteMethod_71 hX (fun H locs ls hP hS hl => ?_) hs_N _ _ h68 _ _ _ hP hS (lv_sub hl [2, 4, 0] rfl)
  exact hs_vret hx hb hr hlocks hK hP hS hf dX11_unwriteMethod_130

theorem dX11_unwrite_0 : decode cX11_unwrite 0 = .ok (.aload_n 0, 1) := by decide +kernel
theorem dX11_unwrite_1 : decode cX11_unwrite 1 = .ok (.getfield 24, 3) := by decide +kernel
theorem dX11_unwrite_4 : decode cX11_unwrite 4 = .ok (.getfield 71, 3) := by decide +kernel
theorem dX11_unwrite_7 : decode cX11_unwrite 7 = .ok (.ifCond .ne 6, 3) := by decide +kernel
theorem dX11_unwrite_10 : decode cX11_unwrite 10 = .ok (.bipush (-2), 2) := by decide +kernel
theorem dX11_unwrite_12 : decode cX11_unwrite 12 = .ok (.ireturn, 1) := by decide +kernel
theorem dX11_unwrite_13 : decode cX11_unwrite 13 = .ok (.aload_n 0, 1) := by decide +kernel
theorem dX11_unwrite_14 : decode cX11_unwrite 14 = .ok (.getfield 21, 3) := by decide +kernel
theorem dX11_unwrite_17 : decode cX11_unwrite 17 = .ok (.invokevirtual 68, 3) := by decide +kernel
theorem dX11_unwrite_20 : decode cX11_unwrite 20 = .ok (.aload_n 0, 1) := by decide +kernel
theorem dX11_unwrite_21 : decode cX11_unwrite 21 = .ok (.getfield 21, 3) := by decide +kernel
theorem dX11_unwrite_24 : decode cX11_unwrite 24 = .ok (.aload_n 0, 1) := by decide +kernel
theorem dX11_unwrite_25 : decode cX11_unwrite 25 = .ok (.getfield 18, 3) := by decide +kernel
theorem dX11_unwrite_28 : decode cX11_unwrite 28 = .ok (.getfield 71, 3) := by decide +kernel
theorem dX11_unwrite_31 : decode cX11_unwrite 31 = .ok (.invokevirtual 61, 3) := by decide +kernel
theorem dX11_unwrite_34 : decode cX11_unwrite 34 = .ok (.iconst 0, 1) := by decide +kernel
theorem dX11_unwrite_35 : decode cX11_unwrite 35 = .ok (.istore_n 1, 1) := by decide +kernel
theorem dX11_unwrite_36 : decode cX11_unwrite 36 = .ok (.iload_n 1, 1) := by decide +kernel
theorem dX11_unwrite_37 : decode cX11_unwrite 37 = .ok (.aload_n 0, 1) := by decide +kernel
theorem dX11_unwrite_38 : decode cX11_unwrite 38 = .ok (.getfield 18, 3) := by decide +kernel
theorem dX11_unwrite_41 : decode cX11_unwrite 41 = .ok (.getfield 71, 3) := by decide +kernel
theorem dX11_unwrite_44 : decode cX11_unwrite 44 = .ok (.if_icmp .ge 29, 3) := by decide +kernel
theorem dX11_unwrite_47 : decode cX11_unwrite 47 = .ok (.aload_n 0, 1) := by decide +kernel
theorem dX11_unwrite_48 : decode cX11_unwrite 48 = .ok (.aload_n 0, 1) := by decide +kernel
theorem dX11_unwrite_49 : decode cX11_unwrite 49 = .ok (.getfield 18, 3) := by decide +kernel
theorem dX11_unwrite_52 : decode cX11_unwrite 52 = .ok (.iload_n 1, 1) := by decide +kernel
theorem dX11_unwrite_53 : decode cX11_unwrite 53 = .ok (.invokevirtual 87, 3) := by decide +kernel
theorem dX11_unwrite_56 : decode cX11_unwrite 56 = .ok (.aload_n 0, 1) := by decide +kernel
theorem dX11_unwrite_57 : decode cX11_unwrite 57 = .ok (.getfield 21, 3) := by decide +kernel
theorem dX11_unwrite_60 : decode cX11_unwrite 60 = .ok (.iload_n 1, 1) := by decide +kernel
theorem dX11_unwrite_61 : decode cX11_unwrite 61 = .ok (.invokevirtual 87, 3) := by decide +kernel
theorem dX11_unwrite_64 : decode cX11_unwrite 64 = .ok (.invokevirtual 168, 3) := by decide +kernel
theorem dX11_unwrite_67 : decode cX11_unwrite 67 = .ok (.iinc 1 1, 3) := by decide +kernel
theorem dX11_unwrite_70 : decode cX11_unwrite 70 = .ok (.goto (-34), 3) := by decide +kernel
theorem dX11_unwrite_73 : decode cX11_unwrite 73 = .ok (.aload_n 0, 1) := by decide +kernel
theorem dX11_unwrite_74 : decode cX11_unwrite 74 = .ok (.getfield 37, 3) := by decide +kernel
theorem dX11_unwrite_77 : decode cX11_unwrite 77 = .ok (.aload_n 0, 1) := by decide +kernel
theorem dX11_unwrite_78 : decode cX11_unwrite 78 = .ok (.getfield 21, 3) := by decide +kernel
theorem dX11_unwrite_81 : decode cX11_unwrite 81 = .ok (.invokevirtual 64, 3) := by decide +kernel
theorem dX11_unwrite_84 : decode cX11_unwrite 84 = .ok (.pop, 1) := by decide +kernel
theorem dX11_unwrite_85 : decode cX11_unwrite 85 = .ok (.aload_n 0, 1) := by decide +kernel
theorem dX11_unwrite_86 : decode cX11_unwrite 86 = .ok (.getfield 18, 3) := by decide +kernel
theorem dX11_unwrite_89 : decode cX11_unwrite 89 = .ok (.astore_n 1, 1) := by decide +kernel
theorem dX11_unwrite_90 : decode cX11_unwrite 90 = .ok (.aload_n 0, 1) := by decide +kernel
theorem dX11_unwrite_91 : decode cX11_unwrite 91 = .ok (.aload_n 0, 1) := by decide +kernel
theorem dX11_unwrite_92 : decode cX11_unwrite 92 = .ok (.getfield 21, 3) := by decide +kernel
theorem dX11_unwrite_95 : decode cX11_unwrite 95 = .ok (.putfield 18, 3) := by decide +kernel
theorem dX11_unwrite_98 : decode cX11_unwrite 98 = .ok (.aload_n 0, 1) := by decide +kernel
theorem dX11_unwrite_99 : decode cX11_unwrite 99 = .ok (.aload_n 1, 1) := by decide +kernel
theorem dX11_unwrite_100 : decode cX11_unwrite 100 = .ok (.putfield 21, 3) := by decide +kernel
theorem dX11_unwrite_103 : decode cX11_unwrite 103 = .ok (.aload_n 0, 1) := by decide +kernel
theorem dX11_unwrite_104 : decode cX11_unwrite 104 = .ok (.getfield 18, 3) := by decide +kernel
theorem dX11_unwrite_107 : decode cX11_unwrite 107 = .ok (.invokevirtual 99, 3) := by decide +kernel
theorem dX11_unwrite_110 : decode cX11_unwrite 110 = .ok (.ireturn, 1) := by decide +kernel
abbrev wcX11_unwrite : List Cond := .code yX11_unwrite cX11_unwrite 2 (some .int) :: wsL_law
def lX11_unwrite_36 : Nat → Nat → Int32 → hs_S → Option (hs_S)
  | 0, _, _, _ => none
  | n + 1, v0, v1, g =>
    if hs_kd g v0 = 9 then
    if ¬ (hs_R g v0 1) = 0 then
    if hs_kd g ((hs_R g v0 1) - 1) = 0 then
    if (hs_I g ((hs_R g v0 1) - 1) 4) ≤ v1 then (
      some g
    ) else (
      hs_bd (fX0_method ((hs_R g v0 1) - 1) v1 g) fun r21 g20 =>
      if hs_kd g20 v0 = 9 then
      if ¬ (hs_R g20 v0 2) = 0 then
      if hs_kd g20 ((hs_R g20 v0 2) - 1) = 0 then
      hs_bd (fX0_method ((hs_R g20 v0 2) - 1) v1 g20) fun r27 g26 =>
      if hs_kd g26 v0 = 9 then
      hs_bv (fX11_unwriteMethod v0 r21 r27 g26) fun g30 =>
      lX11_unwrite_36 n v0 (v1 + (1 : Int32)) g30
      else none else none else none else none
    )
    else none else none else none
theorem lX11_unwrite_36_s (n : Nat) (v0 : Nat) (v1 : Int32) (g : hs_S) : lX11_unwrite_36 (n + 1) v0 v1 g =
    if hs_kd g v0 = 9 then
    if ¬ (hs_R g v0 1) = 0 then
    if hs_kd g ((hs_R g v0 1) - 1) = 0 then
    if (hs_I g ((hs_R g v0 1) - 1) 4) ≤ v1 then (
      some g
    ) else (
      hs_bd (fX0_method ((hs_R g v0 1) - 1) v1 g) fun r21 g20 =>
      if hs_kd g20 v0 = 9 then
      if ¬ (hs_R g20 v0 2) = 0 then
      if hs_kd g20 ((hs_R g20 v0 2) - 1) = 0 then
      hs_bd (fX0_method ((hs_R g20 v0 2) - 1) v1 g20) fun r27 g26 =>
      if hs_kd g26 v0 = 9 then
      hs_bv (fX11_unwriteMethod v0 r21 r27 g26) fun g30 =>
      lX11_unwrite_36 n v0 (v1 + (1 : Int32)) g30
      else none else none else none else none
    )
    else none else none else none := rfl
def fX11_unwrite (v0 : Nat) (g : hs_S) : Option (Int32 × hs_S) :=
  if hs_kd g v0 = 9 then
  if ¬ (hs_R g v0 3) = 0 then
  if hs_kd g ((hs_R g v0 3) - 1) = 0 then
  if (hs_I g ((hs_R g v0 3) - 1) 4) = 0 then (
    some ((-2 : Int32), g)
  ) else (
    if ¬ (hs_R g v0 2) = 0 then
    if hs_kd g ((hs_R g v0 2) - 1) = 0 then
    hs_bv (fX0_empty ((hs_R g v0 2) - 1) g) fun g6 =>
    if hs_kd g6 v0 = 9 then
    if ¬ (hs_R g6 v0 2) = 0 then
    if ¬ (hs_R g6 v0 1) = 0 then
    if hs_kd g6 ((hs_R g6 v0 1) - 1) = 0 then
    if hs_kd g6 ((hs_R g6 v0 2) - 1) = 0 then
    hs_bv (fX0_append ((hs_R g6 v0 2) - 1) (hs_I g6 ((hs_R g6 v0 1) - 1) 4) g6) fun g14 =>
    hs_bv (lX11_unwrite_36 hs_N v0 (0 : Int32) g14) fun g34 =>
    if hs_kd g34 v0 = 9 then
    if ¬ (hs_R g34 v0 5) = 0 then
    if ¬ (hs_R g34 v0 2) = 0 then
    if hs_kd g34 ((hs_R g34 v0 5) - 1) = 2 then
    hs_bd (fX2_firstWrong ((hs_R g34 v0 5) - 1) ((hs_R g34 v0 2) - 1) g34) fun r41 g40 =>
    if hs_kd g40 v0 = 9 then
    if ¬ (hs_R g40 v0 1) = 0 then
    if ¬ (hs_R g40 v0 2) = 0 then
    if ¬ (hs_R (hs_wR (hs_wR g40 v0 1 ((hs_R g40 v0 2) - 1)) v0 2 ((hs_R g40 v0 1) - 1)) v0 1) = 0 then
    if hs_kd (hs_wR (hs_wR g40 v0 1 ((hs_R g40 v0 2) - 1)) v0 2 ((hs_R g40 v0 1) - 1)) ((hs_R (hs_wR (hs_wR g40 v0 1 ((hs_R g40 v0 2) - 1)) v0 2 ((hs_R g40 v0 1) - 1)) v0 1) - 1) = 0 then
    hs_bd (fX0_codeBytes ((hs_R (hs_wR (hs_wR g40 v0 1 ((hs_R g40 v0 2) - 1)) v0 2 ((hs_R g40 v0 1) - 1)) v0 1) - 1) (hs_wR (hs_wR g40 v0 1 ((hs_R g40 v0 2) - 1)) v0 2 ((hs_R g40 v0 1) - 1))) fun r49 g48 =>
    some (r49, g48)
    else none else none else none else none else none else none else none else none else none else none else none else none else none else none else none else none
  )
  else none else none else none
abbrev rmX11_unwrite : Room := { frames := 7, cells := 0, slots := 0, locals := 167 }
set_option maxHeartbeats 4000000 in
set_option maxRecDepth 100000 in
theorem wX11_unwrite_36 {p : Program} {l : Launch} {e : Env} {s : State} {m : MethodId} {args : Array Value} {below : List Frame} {meth : Method} {c : Code} {B : Nat} {D : va_G} {E : Nat → ClassId} (hX : hs_cx cX11_unwrite (some .int) 2 RX11 wcX11_unwrite p s m args meth c D E) {Q : State → Prop} {o : hs_S} {v0 : Nat} (hex0 : ∀ (H : Heap) (locs : List Loc) (ls : Array Slot), hs_P B D E (o) H → hs_Sx B s.heap H locs → lv_has ls 2 [(0, .ref (B + v0))] → W p l e rmX11_unwrite s m args below meth c H locs 0 0 Q (F0 m 73 ls [])) : ∀ (n : Nat) (v1 : Int32) (g : hs_S), lX11_unwrite_36 n v0 v1 g = some o → ∀ (H : Heap) (locs : List Loc) (ls : Array Slot), hs_P B D E g H → hs_Sx B s.heap H locs → lv_has ls 2 [(0, .ref (B + v0)), (1, .int v1)] → W p l e rmX11_unwrite s m args below meth c H locs 0 0 Q (F0 m 36 ls []) := by
  obtain ⟨hx, hb, hr, hml, hown, hts, hlocks, hK⟩ := id hX
  intro n
  induction n with
  | zero =>
    intro v1 g hf
    cases hf
  | succ n ih =>
    intro v1 g hf H locs ls hP hS hl
    replace hf := (lX11_unwrite_36_s n v0 v1 g).symm.trans hf
    refine lv_iload_n hx hb dX11_unwrite_36 rfl (lv_at hl 1 rfl) ?_
    refine lv_aload_n hx hb dX11_unwrite_37 rfl (lv_at hl 0 rfl) ?_
    obtain ⟨h17, hf⟩ := hs_ck hf
    obtain ⟨h18, hf⟩ := hs_ck hf
    refine hs_getr (C := RX11) (T := TX11) (N := 8) hx hb hts (fun w h => List.mem_cons_of_mem _ (inlX11 w h)) hown hK.1 hP h17 (by decide) rfl 1 (by decide) (hts _ (List.mem_cons_of_mem _ wq17)) (fun _ h => h) rfl h18 dX11_unwrite_38 ?_
    obtain ⟨h19, hf⟩ := hs_ck hf
    refine hs_geti (C := RX0) (T := TX0) (N := 5) hx hb hts (fun w h => List.mem_cons_of_mem _ (inlX0 w h)) hown hK.1 hP h19 (by decide) rfl 4 (by decide) (hts _ (List.mem_cons_of_mem _ wq181)) (fun _ h => h) rfl dX11_unwrite_41 ?_
    refine lv_icmp_ge (tgt := 73) hx hb dX11_unwrite_44 (by decide) (fun hc => ?_) (fun hc => ?_)
    · replace hf := hs_t hf hc
      obtain rfl := Option.some.inj hf
      exact hex0 _ _ _ hP hS (lv_sub hl [0] rfl)
    · replace hf := hs_f hf hc
      refine lv_aload_n hx hb dX11_unwrite_47 rfl (lv_at hl 0 rfl) ?_
      refine lv_aload_n hx hb dX11_unwrite_48 rfl (lv_at hl 0 rfl) ?_
      refine hs_getr (C := RX11) (T := TX11) (N := 8) hx hb hts (fun w h => List.mem_cons_of_mem _ (inlX11 w h)) hown hK.1 hP h17 (by decide) rfl 1 (by decide) (hts _ (List.mem_cons_of_mem _ wq17)) (fun _ h => h) rfl h18 dX11_unwrite_49 ?_
      refine lv_iload_n hx hb dX11_unwrite_52 rfl (lv_at hl 1 rfl) ?_
      obtain ⟨r21, g20, h22, hf⟩ := hs_bd_some hf
      refine hs_callr (va_runV (As := [.int v1]) (rest := [.ref (B + v0)]) ⟨hx, hb, hml, hown, hts⟩ (ctX0_method l B D E ((hs_R g v0 1) - 1) v1 g _ h22) (cwV 1 hts (hs_gV (fun _ h => List.mem_cons_of_mem _ h) wq488 wq108 wq109 wq15 wq110) rfl rfl rfl (by decide +kernel) ⟨Nat.le_of_ble_eq_true rfl, Nat.le_of_ble_eq_true rfl⟩) (hs_preV (r := (RX0, TX0, 5)) hP hK h19 (by decide) rfl) rfl rfl hl.1 rfl (lv_room (Nat.le_of_ble_eq_true rfl)) dX11_unwrite_53 ⟨(Nat.le_of_ble_eq_true rfl), (Nat.le_of_ble_eq_true rfl)⟩) hS (fun H locs hP hS => ?_)
      refine lv_aload_n hx hb dX11_unwrite_56 rfl (lv_at hl 0 rfl) ?_
      obtain ⟨h23, hf⟩ := hs_ck hf
      obtain ⟨h24, hf⟩ := hs_ck hf
      refine hs_getr (C := RX11) (T := TX11) (N := 8) hx hb hts (fun w h => List.mem_cons_of_mem _ (inlX11 w h)) hown hK.1 hP h23 (by decide) rfl 2 (by decide) (hts _ (List.mem_cons_of_mem _ wq18)) (fun _ h => h) rfl h24 dX11_unwrite_57 ?_
      refine lv_iload_n hx hb dX11_unwrite_60 rfl (lv_at hl 1 rfl) ?_
      obtain ⟨h25, hf⟩ := hs_ck hf
      obtain ⟨r27, g26, h28, hf⟩ := hs_bd_some hf
      refine hs_callr (va_runV (As := [.int v1]) (rest := [.ref (B + r21), .ref (B + v0)]) ⟨hx, hb, hml, hown, hts⟩ (ctX0_method l B D E ((hs_R g20 v0 2) - 1) v1 g20 _ h28) (cwV 1 hts (hs_gV (fun _ h => List.mem_cons_of_mem _ h) wq488 wq108 wq109 wq15 wq110) rfl rfl rfl (by decide +kernel) ⟨Nat.le_of_ble_eq_true rfl, Nat.le_of_ble_eq_true rfl⟩) (hs_preV (r := (RX0, TX0, 5)) hP hK h25 (by decide) rfl) rfl rfl hl.1 rfl (lv_room (Nat.le_of_ble_eq_true rfl)) dX11_unwrite_61 ⟨(Nat.le_of_ble_eq_true rfl), (Nat.le_of_ble_eq_true rfl)⟩) hS (fun H locs hP hS => ?_)
      obtain ⟨h29, hf⟩ := hs_ck hf
      obtain ⟨g30, h32, hf⟩ := hs_bv_some hf
      refine hs_callv (va_runV (As := [.ref (B + r21), .ref (B + r27)]) (rest := []) ⟨hx, hb, hml, hown, hts⟩ (ctX11_unwriteMethod l B D E v0 r21 r27 g26 _ h32) (cwV 2 hts (hs_gV (fun _ h => List.mem_cons_of_mem _ h) wq960 wq961 wq962 wq2 wq963) rfl rfl rfl (by decide +kernel) ⟨Nat.le_of_ble_eq_true rfl, Nat.le_of_ble_eq_true rfl⟩) (hs_preV (r := (RX11, TX11, 8)) hP hK h29 (by decide) rfl) rfl rfl hl.1 rfl (lv_room (Nat.le_of_ble_eq_true rfl)) dX11_unwrite_64 ⟨(Nat.le_of_ble_eq_true rfl), (Nat.le_of_ble_eq_true rfl)⟩) hS (fun H locs hP hS => ?_)
      refine lv_iinc (v := (v1 + (1 : Int32))) (lv' := [(1, .int (v1 + (1 : Int32))), (0, .ref (B + v0))]) hx hb dX11_unwrite_67 hl (k := 1) rfl (by rfl) (by decide) rfl (fun ls hl => ?_)
      refine lv_goto (tgt := 36) hx hb dX11_unwrite_70 (by decide) ?_
      exact ih _ _ hf _ _ _ hP hS (lv_sub hl [1, 0] rfl)

set_option maxHeartbeats 4000000 in
set_option maxRecDepth 100000 in
theorem ctX11_unwrite (l : Launch) (B : Nat) (D : va_G) (E : Nat → ClassId) (v0 : Nat) (g : hs_S) (o : Int32 × hs_S) (hf : fX11_unwrite v0 g = some o) : Met l yX11_unwrite wcX11_unwrite rmX11_unwrite (hs_Pc B D E g [.ref (B + v0)]) (hs_Qi B D E o) (0) (0) (hs_F B) := by
  refine Met.ofW (cc := cX11_unwrite) (maxL := 2) (ret := (some .int)) (by decide) rfl ?_
  intro p e s m args below meth c s₁ Bd hml hv
  obtain ⟨rfl, hP, hK⟩ := hv
  have hx := Bd.exec
  have hb := Bd.bytes
  have hr := Bd.returns
  have hts := atoms_spec (ws := wcX11_unwrite) Bd.pre
  have hown : s.vm.findClass RX11 = some m.cls := findClass_of_methodNamed Bd.named
  have hlocks := Bd.notSynchronized
  have hS : hs_Sx B s.heap s.heap [] := va_S.rf
  have hX : hs_cx cX11_unwrite (some .int) 2 RX11 wcX11_unwrite p s m (List.toArray [.ref (B + v0)]) meth c D E := ⟨hx, hb, hr, hml, hown, hts, hlocks, hK⟩
  have hl := lv_entry ([.ref (B + v0)]) (n := 2) (Nat.le_of_ble_eq_true rfl)
  rw [lg_entry_eq]
  generalize (lg_sl ([.ref (B + v0)]) ++ List.replicate (2 - (lg_sl ([.ref (B + v0)])).length) Slot.unset).toArray = ls at hl ⊢
  have hl : lv_has ls 2 [(0, .ref (B + v0))] := hl
  have hP : hs_P B D E g s.heap := hP
  unfold fX11_unwrite at hf
  refine lv_aload_n hx hb dX11_unwrite_0 rfl (lv_at hl 0 rfl) ?_
  obtain ⟨h1, hf⟩ := hs_ck hf
  obtain ⟨h2, hf⟩ := hs_ck hf
  refine hs_getr (C := RX11) (T := TX11) (N := 8) hx hb hts (fun w h => List.mem_cons_of_mem _ (inlX11 w h)) hown hK.1 hP h1 (by decide) rfl 3 (by decide) (hts _ (List.mem_cons_of_mem _ wq19)) (fun _ h => h) rfl h2 dX11_unwrite_1 ?_
  obtain ⟨h3, hf⟩ := hs_ck hf
  refine hs_geti (C := RX0) (T := TX0) (N := 5) hx hb hts (fun w h => List.mem_cons_of_mem _ (inlX0 w h)) hown hK.1 hP h3 (by decide) rfl 4 (by decide) (hts _ (List.mem_cons_of_mem _ wq181)) (fun _ h => h) rfl dX11_unwrite_4 ?_
  refine lv_if_ne (tgt := 13) hx hb dX11_unwrite_7 (by decide) (fun hc => ?_) (fun hc => ?_)
  · replace hf := hs_f hf hc
    refine lv_aload_n hx hb dX11_unwrite_13 rfl (lv_at hl 0 rfl) ?_
    obtain ⟨h4, hf⟩ := hs_ck hf
    refine hs_getr (C := RX11) (T := TX11) (N := 8) hx hb hts (fun w h => List.mem_cons_of_mem _ (inlX11 w h)) hown hK.1 hP h1 (by decide) rfl 2 (by decide) (hts _ (List.mem_cons_of_mem _ wq18)) (fun _ h => h) rfl h4 dX11_unwrite_14 ?_
    obtain ⟨h5, hf⟩ := hs_ck hf
    obtain ⟨g6, h8, hf⟩ := hs_bv_some hf
    refine hs_callv (va_runV (As := []) (rest := []) ⟨hx, hb, hml, hown, hts⟩ (ctX0_empty l B D E ((hs_R g v0 2) - 1) g _ h8) (cwV 0 hts (hs_gV (fun _ h => List.mem_cons_of_mem _ h) wq384 wq385 wq386 wq15 wq387) rfl rfl rfl (by decide +kernel) ⟨Nat.le_of_ble_eq_true rfl, Nat.le_of_ble_eq_true rfl⟩) (hs_preV (r := (RX0, TX0, 5)) hP hK h5 (by decide) rfl) rfl rfl hl.1 rfl (lv_room (Nat.le_of_ble_eq_true rfl)) dX11_unwrite_17 ⟨(Nat.le_of_ble_eq_true rfl), (Nat.le_of_ble_eq_true rfl)⟩) hS (fun H locs hP hS => ?_)
    refine lv_aload_n hx hb dX11_unwrite_20 rfl (lv_at hl 0 rfl) ?_
    obtain ⟨h9, hf⟩ := hs_ck hf
    obtain ⟨h10, hf⟩ := hs_ck hf
    refine hs_getr (C := RX11) (T := TX11) (N := 8) hx hb hts (fun w h => List.mem_cons_of_mem _ (inlX11 w h)) hown hK.1 hP h9 (by decide) rfl 2 (by decide) (hts _ (List.mem_cons_of_mem _ wq18)) (fun _ h => h) rfl h10 dX11_unwrite_21 ?_
    refine lv_aload_n hx hb dX11_unwrite_24 rfl (lv_at hl 0 rfl) ?_
    obtain ⟨h11, hf⟩ := hs_ck hf
    refine hs_getr (C := RX11) (T := TX11) (N := 8) hx hb hts (fun w h => List.mem_cons_of_mem _ (inlX11 w h)) hown hK.1 hP h9 (by decide) rfl 1 (by decide) (hts _ (List.mem_cons_of_mem _ wq17)) (fun _ h => h) rfl h11 dX11_unwrite_25 ?_
    obtain ⟨h12, hf⟩ := hs_ck hf
    refine hs_geti (C := RX0) (T := TX0) (N := 5) hx hb hts (fun w h => List.mem_cons_of_mem _ (inlX0 w h)) hown hK.1 hP h12 (by decide) rfl 4 (by decide) (hts _ (List.mem_cons_of_mem _ wq181)) (fun _ h => h) rfl dX11_unwrite_28 ?_
    obtain ⟨h13, hf⟩ := hs_ck hf
    obtain ⟨g14, h16, hf⟩ := hs_bv_some hf
    refine hs_callv (va_runV (As := [.int (hs_I g6 ((hs_R g6 v0 1) - 1) 4)]) (rest := []) ⟨hx, hb, hml, hown, hts⟩ (ctX0_append l B D E ((hs_R g6 v0 2) - 1) (hs_I g6 ((hs_R g6 v0 1) - 1) 4) g6 _ h16) (cwV 1 hts (hs_gV (fun _ h => List.mem_cons_of_mem _ h) wq166 wq167 wq168 wq15 wq169) rfl rfl rfl (by decide +kernel) ⟨Nat.le_of_ble_eq_true rfl, Nat.le_of_ble_eq_true rfl⟩) (hs_preV (r := (RX0, TX0, 5)) hP hK h13 (by decide) rfl) rfl rfl hl.1 rfl (lv_room (Nat.le_of_ble_eq_true rfl)) dX11_unwrite_31 ⟨(Nat.le_of_ble_eq_true rfl), (Nat.le_of_ble_eq_true rfl)⟩) hS (fun H locs hP hS => ?_)
    refine lv_iconst (v := 0) hx hb dX11_unwrite_34 (by decide) ?_
    refine lv_istore_n (lv' := [(1, .int (0 : Int32)), (0, .ref (B + v0))]) hx hb dX11_unwrite_35 rfl hl (by decide) rfl (fun ls hl => ?_)
    obtain ⟨g34, h35, hf⟩ := hs_bv_some hf
    refine wX11_unwrite_36 hX (fun H locs ls hP hS hl => ?_) hs_N _ _ h35 _ _ _ hP hS (lv_sub hl [1, 0] rfl)
    refine lv_aload_n hx hb dX11_unwrite_73 rfl (lv_at hl 0 rfl) ?_
    obtain ⟨h36, hf⟩ := hs_ck hf
    obtain ⟨h37, hf⟩ := hs_ck hf
    refine hs_getr (C := RX11) (T := TX11) (N := 8) hx hb hts (fun w h => List.mem_cons_of_mem _ (inlX11 w h)) hown hK.1 hP h36 (by decide) rfl 5 (by decide) (hts _ (List.mem_cons_of_mem _ wq27)) (fun _ h => h) rfl h37 dX11_unwrite_74 ?_
    refine lv_aload_n hx hb dX11_unwrite_77 rfl (lv_at hl 0 rfl) ?_
    obtain ⟨h38, hf⟩ := hs_ck hf
    refine hs_getr (C := RX11) (T := TX11) (N := 8) hx hb hts (fun w h => List.mem_cons_of_mem _ (inlX11 w h)) hown hK.1 hP h36 (by decide) rfl 2 (by decide) (hts _ (List.mem_cons_of_mem _ wq18)) (fun _ h => h) rfl h38 dX11_unwrite_78 ?_
    obtain ⟨h39, hf⟩ := hs_ck hf
    obtain ⟨r41, g40, h42, hf⟩ := hs_bd_some hf
    refine hs_calli (va_runV (As := [.ref (B + ((hs_R g34 v0 2) - 1))]) (rest := []) ⟨hx, hb, hml, hown, hts⟩ (ctX2_firstWrong l B D E ((hs_R g34 v0 5) - 1) ((hs_R g34 v0 2) - 1) g34 _ h42) (cwV 1 hts (hs_gV (fun _ h => List.mem_cons_of_mem _ h) wq182 wq183 wq184 wq26 wq185) rfl rfl rfl (by decide +kernel) ⟨Nat.le_of_ble_eq_true rfl, Nat.le_of_ble_eq_true rfl⟩) (hs_preV (r := (RX2, TX2, 1)) hP hK h39 (by decide) rfl) rfl rfl hl.1 rfl (lv_room (Nat.le_of_ble_eq_true rfl)) dX11_unwrite_81 ⟨(Nat.le_of_ble_eq_true rfl), (Nat.le_of_ble_eq_true rfl)⟩) hS (fun H locs hP hS => ?_)
    refine lv_pop hx hb dX11_unwrite_84 rfl ?_
    refine lv_aload_n hx hb dX11_unwrite_85 rfl (lv_at hl 0 rfl) ?_
    obtain ⟨h43, hf⟩ := hs_ck hf
    obtain ⟨h44, hf⟩ := hs_ck hf
    refine hs_getr (C := RX11) (T := TX11) (N := 8) hx hb hts (fun w h => List.mem_cons_of_mem _ (inlX11 w h)) hown hK.1 hP h43 (by decide) rfl 1 (by decide) (hts _ (List.mem_cons_of_mem _ wq17)) (fun _ h => h) rfl h44 dX11_unwrite_86 ?_
    refine lv_astore_n (lv' := [(1, .ref (B + ((hs_R g40 v0 1) - 1))), (0, .ref (B + v0))]) hx hb dX11_unwrite_89 rfl hl (by decide) rfl (fun ls hl => ?_)
    refine lv_aload_n hx hb dX11_unwrite_90 rfl (lv_at hl 1 rfl) ?_
    refine lv_aload_n hx hb dX11_unwrite_91 rfl (lv_at hl 1 rfl) ?_
    obtain ⟨h45, hf⟩ := hs_ck hf
    refine hs_getr (C := RX11) (T := TX11) (N := 8) hx hb hts (fun w h => List.mem_cons_of_mem _ (inlX11 w h)) hown hK.1 hP h43 (by decide) rfl 2 (by decide) (hts _ (List.mem_cons_of_mem _ wq18)) (fun _ h => h) rfl h45 dX11_unwrite_92 ?_
    refine hs_putr (C := RX11) (T := TX11) (N := 8) hx hb hts (fun w h => List.mem_cons_of_mem _ (inlX11 w h)) tyX11 tyX11_ok nmX11 hown hK.1 hP hS h43 (by decide) rfl 1 (by decide) (hts _ (List.mem_cons_of_mem _ wq17)) (fun _ h => h) (Or.inl rfl) (fun _ => rfl) (fun _ => rfl) rfl dX11_unwrite_95 (fun H locs hP hS => ?_)
    refine lv_aload_n hx hb dX11_unwrite_98 rfl (lv_at hl 1 rfl) ?_
    refine lv_aload_n hx hb dX11_unwrite_99 rfl (lv_at hl 0 rfl) ?_
    refine hs_putr (C := RX11) (T := TX11) (N := 8) hx hb hts (fun w h => List.mem_cons_of_mem _ (inlX11 w h)) tyX11 tyX11_ok nmX11 hown hK.1 hP hS h43 (by decide) rfl 2 (by decide) (hts _ (List.mem_cons_of_mem _ wq18)) (fun _ h => h) (Or.inl rfl) (fun _ => rfl) (fun _ => rfl) rfl dX11_unwrite_100 (fun H locs hP hS => ?_)
    refine lv_aload_n hx hb dX11_unwrite_103 rfl (lv_at hl 1 rfl) ?_
    obtain ⟨h46, hf⟩ := hs_ck hf
    refine hs_getr (C := RX11) (T := TX11) (N := 8) hx hb hts (fun w h => List.mem_cons_of_mem _ (inlX11 w h)) hown hK.1 hP h43 (by decide) rfl 1 (by decide) (hts _ (List.mem_cons_of_mem _ wq17)) (fun _ h => h) rfl h46 dX11_unwrite_104 ?_
    obtain ⟨h47, hf⟩ := hs_ck hf
    obtain ⟨r49, g48, h50, hf⟩ := hs_bd_some hf
    refine hs_calli (va_runV (As := []) (rest := []) ⟨hx, hb, hml, hown, hts⟩ (ctX0_codeBytes l B D E ((hs_R (hs_wR (hs_wR g40 v0 1 ((hs_R g40 v0 2) - 1)) v0 2 ((hs_R g40 v0 1) - 1)) v0 1) - 1) (hs_wR (hs_wR g40 v0 1 ((hs_R g40 v0 2) - 1)) v0 2 ((hs_R g40 v0 1) - 1)) _ h50) (cwV 0 hts (hs_gV (fun _ h => List.mem_cons_of_mem _ h) wq585 wq586 wq587 wq15 wq588) rfl rfl rfl (by decide +kernel) ⟨Nat.le_of_ble_eq_true rfl, Nat.le_of_ble_eq_true rfl⟩) (hs_preV (r := (RX0, TX0, 5)) hP hK h47 (by decide) rfl) rfl rfl hl.1 rfl (lv_room (Nat.le_of_ble_eq_true rfl)) dX11_unwrite_107 ⟨(Nat.le_of_ble_eq_true rfl), (Nat.le_of_ble_eq_true rfl)⟩) hS (fun H locs hP hS => ?_)
    exact hs_iret hx hb hr hlocks rfl hK hP hS hf dX11_unwrite_110
  · replace hf := hs_t hf hc
    refine lv_bipush (v := -2) hx hb dX11_unwrite_10 (by decide) ?_
    exact hs_iret hx hb hr hlocks rfl hK hP hS hf dX11_unwrite_12

theorem dX11_clear_0 : decode cX11_clear 0 = .ok (.aload_n 0, 1) := by decide +kernel
theorem dX11_clear_1 : decode cX11_clear 1 = .ok (.getfield 14, 3) := by decide +kernel
theorem dX11_clear_4 : decode cX11_clear 4 = .ok (.invokevirtual 68, 3) := by decide +kernel
theorem dX11_clear_7 : decode cX11_clear 7 = .ok (.aload_n 0, 1) := by decide +kernel
theorem dX11_clear_8 : decode cX11_clear 8 = .ok (.getfield 18, 3) := by decide +kernel
theorem dX11_clear_11 : decode cX11_clear 11 = .ok (.invokevirtual 68, 3) := by decide +kernel
theorem dX11_clear_14 : decode cX11_clear 14 = .ok (.aload_n 0, 1) := by decide +kernel
theorem dX11_clear_15 : decode cX11_clear 15 = .ok (.getfield 24, 3) := by decide +kernel
theorem dX11_clear_18 : decode cX11_clear 18 = .ok (.invokevirtual 68, 3) := by decide +kernel
theorem dX11_clear_21 : decode cX11_clear 21 = .ok (.aload_n 0, 1) := by decide +kernel
theorem dX11_clear_22 : decode cX11_clear 22 = .ok (.getfield 30, 3) := by decide +kernel
theorem dX11_clear_25 : decode cX11_clear 25 = .ok (.invokevirtual 172, 3) := by decide +kernel
theorem dX11_clear_28 : decode cX11_clear 28 = .ok (.aload_n 0, 1) := by decide +kernel
theorem dX11_clear_29 : decode cX11_clear 29 = .ok (.getfield 53, 3) := by decide +kernel
theorem dX11_clear_32 : decode cX11_clear 32 = .ok (.invokevirtual 175, 3) := by decide +kernel
theorem dX11_clear_35 : decode cX11_clear 35 = .ok (.return_, 1) := by decide +kernel
abbrev wcX11_clear : List Cond := .code yX11_clear cX11_clear 1 none :: wsL_law
def fX11_clear (v0 : Nat) (g : hs_S) : Option (hs_S) :=
  if hs_kd g v0 = 9 then
  if ¬ (hs_R g v0 0) = 0 then
  if hs_kd g ((hs_R g v0 0) - 1) = 0 then
  hs_bv (fX0_empty ((hs_R g v0 0) - 1) g) fun g4 =>
  if hs_kd g4 v0 = 9 then
  if ¬ (hs_R g4 v0 1) = 0 then
  if hs_kd g4 ((hs_R g4 v0 1) - 1) = 0 then
  hs_bv (fX0_empty ((hs_R g4 v0 1) - 1) g4) fun g10 =>
  if hs_kd g10 v0 = 9 then
  if ¬ (hs_R g10 v0 3) = 0 then
  if hs_kd g10 ((hs_R g10 v0 3) - 1) = 0 then
  hs_bv (fX0_empty ((hs_R g10 v0 3) - 1) g10) fun g16 =>
  if hs_kd g16 v0 = 9 then
  if ¬ (hs_R g16 v0 4) = 0 then
  if hs_kd g16 ((hs_R g16 v0 4) - 1) = 7 then
  hs_bv (fX8_becomeFirst ((hs_R g16 v0 4) - 1) g16) fun g22 =>
  if hs_kd g22 v0 = 9 then
  if ¬ (hs_R g22 v0 7) = 0 then
  if hs_kd g22 ((hs_R g22 v0 7) - 1) = 5 then
  hs_bv (fX6_forget ((hs_R g22 v0 7) - 1) g22) fun g28 =>
  some g28
  else none else none else none else none else none else none else none else none else none else none else none else none else none else none else none
abbrev rmX11_clear : Room := { frames := 3, cells := 0, slots := 0, locals := 63 }
set_option maxHeartbeats 4000000 in
set_option maxRecDepth 100000 in
theorem ctX11_clear (l : Launch) (B : Nat) (D : va_G) (E : Nat → ClassId) (v0 : Nat) (g : hs_S) (o : hs_S) (hf : fX11_clear v0 g = some o) : Met l yX11_clear wcX11_clear rmX11_clear (hs_Pc B D E g [.ref (B + v0)]) (hs_Qv B D E o) (0) (0) (hs_F B) := by
  refine Met.ofW (cc := cX11_clear) (maxL := 1) (ret := none) (by decide) rfl ?_
  intro p e s m args below meth c s₁ Bd hml hv
  obtain ⟨rfl, hP, hK⟩ := hv
  have hx := Bd.exec
  have hb := Bd.bytes
  have hr := Bd.returns
  have hts := atoms_spec (ws := wcX11_clear) Bd.pre
  have hown : s.vm.findClass RX11 = some m.cls := findClass_of_methodNamed Bd.named
  have hlocks := Bd.notSynchronized
  have hS : hs_Sx B s.heap s.heap [] := va_S.rf
  have hX : hs_cx cX11_clear none 1 RX11 wcX11_clear p s m (List.toArray [.ref (B + v0)]) meth c D E := ⟨hx, hb, hr, hml, hown, hts, hlocks, hK⟩
  have hl := lv_entry ([.ref (B + v0)]) (n := 1) (Nat.le_of_ble_eq_true rfl)
  rw [lg_entry_eq]
  generalize (lg_sl ([.ref (B + v0)]) ++ List.replicate (1 - (lg_sl ([.ref (B + v0)])).length) Slot.unset).toArray = ls at hl ⊢
  have hl : lv_has ls 1 [(0, .ref (B + v0))] := hl
  have hP : hs_P B D E g s.heap := hP
  unfold fX11_clear at hf
  refine lv_aload_n hx hb dX11_clear_0 rfl (lv_at hl 0 rfl) ?_
  obtain ⟨h1, hf⟩ := hs_ck hf
  obtain ⟨h2, hf⟩ := hs_ck hf
  refine hs_getr (C := RX11) (T := TX11) (N := 8) hx hb hts (fun w h => List.mem_cons_of_mem _ (inlX11 w h)) hown hK.1 hP h1 (by decide) rfl 0 (by decide) (hts _ (List.mem_cons_of_mem _ wq16)) (fun _ h => h) rfl h2 dX11_clear_1 ?_
  obtain ⟨h3, hf⟩ := hs_ck hf
  obtain ⟨g4, h6, hf⟩ := hs_bv_some hf
  refine hs_callv (va_runV (As := []) (rest := []) ⟨hx, hb, hml, hown, hts⟩ (ctX0_empty l B D E ((hs_R g v0 0) - 1) g _ h6) (cwV 0 hts (hs_gV (fun _ h => List.mem_cons_of_mem _ h) wq384 wq385 wq386 wq15 wq387) rfl rfl rfl (by decide +kernel) ⟨Nat.le_of_ble_eq_true rfl, Nat.le_of_ble_eq_true rfl⟩) (hs_preV (r := (RX0, TX0, 5)) hP hK h3 (by decide) rfl) rfl rfl hl.1 rfl (lv_room (Nat.le_of_ble_eq_true rfl)) dX11_clear_4 ⟨(Nat.le_of_ble_eq_true rfl), (Nat.le_of_ble_eq_true rfl)⟩) hS (fun H locs hP hS => ?_)
  refine lv_aload_n hx hb dX11_clear_7 rfl (lv_at hl 0 rfl) ?_
  obtain ⟨h7, hf⟩ := hs_ck hf
  obtain ⟨h8, hf⟩ := hs_ck hf
  refine hs_getr (C := RX11) (T := TX11) (N := 8) hx hb hts (fun w h => List.mem_cons_of_mem _ (inlX11 w h)) hown hK.1 hP h7 (by decide) rfl 1 (by decide) (hts _ (List.mem_cons_of_mem _ wq17)) (fun _ h => h) rfl h8 dX11_clear_8 ?_
  obtain ⟨h9, hf⟩ := hs_ck hf
  obtain ⟨g10, h12, hf⟩ := hs_bv_some hf
  refine hs_callv (va_runV (As := []) (rest := []) ⟨hx, hb, hml, hown, hts⟩ (ctX0_empty l B D E ((hs_R g4 v0 1) - 1) g4 _ h12) (cwV 0 hts (hs_gV (fun _ h => List.mem_cons_of_mem _ h) wq384 wq385 wq386 wq15 wq387) rfl rfl rfl (by decide +kernel) ⟨Nat.le_of_ble_eq_true rfl, Nat.le_of_ble_eq_true rfl⟩) (hs_preV (r := (RX0, TX0, 5)) hP hK h9 (by decide) rfl) rfl rfl hl.1 rfl (lv_room (Nat.le_of_ble_eq_true rfl)) dX11_clear_11 ⟨(Nat.le_of_ble_eq_true rfl), (Nat.le_of_ble_eq_true rfl)⟩) hS (fun H locs hP hS => ?_)
  refine lv_aload_n hx hb dX11_clear_14 rfl (lv_at hl 0 rfl) ?_
  obtain ⟨h13, hf⟩ := hs_ck hf
  obtain ⟨h14, hf⟩ := hs_ck hf
  refine hs_getr (C := RX11) (T := TX11) (N := 8) hx hb hts (fun w h => List.mem_cons_of_mem _ (inlX11 w h)) hown hK.1 hP h13 (by decide) rfl 3 (by decide) (hts _ (List.mem_cons_of_mem _ wq19)) (fun _ h => h) rfl h14 dX11_clear_15 ?_
  obtain ⟨h15, hf⟩ := hs_ck hf
  obtain ⟨g16, h18, hf⟩ := hs_bv_some hf
  refine hs_callv (va_runV (As := []) (rest := []) ⟨hx, hb, hml, hown, hts⟩ (ctX0_empty l B D E ((hs_R g10 v0 3) - 1) g10 _ h18) (cwV 0 hts (hs_gV (fun _ h => List.mem_cons_of_mem _ h) wq384 wq385 wq386 wq15 wq387) rfl rfl rfl (by decide +kernel) ⟨Nat.le_of_ble_eq_true rfl, Nat.le_of_ble_eq_true rfl⟩) (hs_preV (r := (RX0, TX0, 5)) hP hK h15 (by decide) rfl) rfl rfl hl.1 rfl (lv_room (Nat.le_of_ble_eq_true rfl)) dX11_clear_18 ⟨(Nat.le_of_ble_eq_true rfl), (Nat.le_of_ble_eq_true rfl)⟩) hS (fun H locs hP hS => ?_)
  refine lv_aload_n hx hb dX11_clear_21 rfl (lv_at hl 0 rfl) ?_
  obtain ⟨h19, hf⟩ := hs_ck hf
  obtain ⟨h20, hf⟩ := hs_ck hf
  refine hs_getr (C := RX11) (T := TX11) (N := 8) hx hb hts (fun w h => List.mem_cons_of_mem _ (inlX11 w h)) hown hK.1 hP h19 (by decide) rfl 4 (by decide) (hts _ (List.mem_cons_of_mem _ wq23)) (fun _ h => h) rfl h20 dX11_clear_22 ?_
  obtain ⟨h21, hf⟩ := hs_ck hf
  obtain ⟨g22, h24, hf⟩ := hs_bv_some hf
  refine hs_callv (va_runV (As := []) (rest := []) ⟨hx, hb, hml, hown, hts⟩ (ctX8_becomeFirst l B D E ((hs_R g16 v0 4) - 1) g16 _ h24) (cwV 0 hts (hs_gV (fun _ h => List.mem_cons_of_mem _ h) wq975 wq59 wq60 wq22 wq61) rfl rfl rfl (by decide +kernel) ⟨Nat.le_of_ble_eq_true rfl, Nat.le_of_ble_eq_true rfl⟩) (hs_preV (r := (RX8, TX8, 1)) hP hK h21 (by decide) rfl) rfl rfl hl.1 rfl (lv_room (Nat.le_of_ble_eq_true rfl)) dX11_clear_25 ⟨(Nat.le_of_ble_eq_true rfl), (Nat.le_of_ble_eq_true rfl)⟩) hS (fun H locs hP hS => ?_)
  refine lv_aload_n hx hb dX11_clear_28 rfl (lv_at hl 0 rfl) ?_
  obtain ⟨h25, hf⟩ := hs_ck hf
  obtain ⟨h26, hf⟩ := hs_ck hf
  refine hs_getr (C := RX11) (T := TX11) (N := 8) hx hb hts (fun w h => List.mem_cons_of_mem _ (inlX11 w h)) hown hK.1 hP h25 (by decide) rfl 7 (by decide) (hts _ (List.mem_cons_of_mem _ wq35)) (fun _ h => h) rfl h26 dX11_clear_29 ?_
  obtain ⟨h27, hf⟩ := hs_ck hf
  obtain ⟨g28, h30, hf⟩ := hs_bv_some hf
  refine hs_callv (va_runV (As := []) (rest := []) ⟨hx, hb, hml, hown, hts⟩ (ctX6_forget l B D E ((hs_R g22 v0 7) - 1) g22 _ h30) (cwV 0 hts (hs_gV (fun _ h => List.mem_cons_of_mem _ h) wq976 wq704 wq705 wq34 wq706) rfl rfl rfl (by decide +kernel) ⟨Nat.le_of_ble_eq_true rfl, Nat.le_of_ble_eq_true rfl⟩) (hs_preV (r := (RX6, TX6, 8)) hP hK h27 (by decide) rfl) rfl rfl hl.1 rfl (lv_room (Nat.le_of_ble_eq_true rfl)) dX11_clear_32 ⟨(Nat.le_of_ble_eq_true rfl), (Nat.le_of_ble_eq_true rfl)⟩) hS (fun H locs hP hS => ?_)
  exact hs_vret hx hb hr hlocks hK hP hS hf dX11_clear_35

