theorem dX12_byteAt_0 : decode cX12_byteAt 0 = .ok (.iload_n 2, 1) := by decide +kernel
theorem dX12_byteAt_1 : decode cX12_byteAt 1 = .ok (.ifCond .eq 13, 3) := by decide +kernel
theorem dX12_byteAt_4 : decode cX12_byteAt 4 = .ok (.aload_n 0, 1) := by decide +kernel
theorem dX12_byteAt_5 : decode cX12_byteAt 5 = .ok (.getfield 195, 3) := by decide +kernel
theorem dX12_byteAt_8 : decode cX12_byteAt 8 = .ok (.ifCond .ne 16, 3) := by decide +kernel
theorem dX12_byteAt_11 : decode cX12_byteAt 11 = .ok (.goto 10, 3) := by decide +kernel
theorem dX12_byteAt_14 : decode cX12_byteAt 14 = .ok (.aload_n 0, 1) := by decide +kernel
theorem dX12_byteAt_15 : decode cX12_byteAt 15 = .ok (.getfield 191, 3) := by decide +kernel
theorem dX12_byteAt_18 : decode cX12_byteAt 18 = .ok (.ifCond .ne 6, 3) := by decide +kernel
theorem dX12_byteAt_21 : decode cX12_byteAt 21 = .ok (.bipush (-2), 2) := by decide +kernel
theorem dX12_byteAt_23 : decode cX12_byteAt 23 = .ok (.ireturn, 1) := by decide +kernel
theorem dX12_byteAt_24 : decode cX12_byteAt 24 = .ok (.iload_n 1, 1) := by decide +kernel
theorem dX12_byteAt_25 : decode cX12_byteAt 25 = .ok (.ifCond .lt 38, 3) := by decide +kernel
theorem dX12_byteAt_28 : decode cX12_byteAt 28 = .ok (.iload_n 1, 1) := by decide +kernel
theorem dX12_byteAt_29 : decode cX12_byteAt 29 = .ok (.aload_n 0, 1) := by decide +kernel
theorem dX12_byteAt_30 : decode cX12_byteAt 30 = .ok (.getfield 188, 3) := by decide +kernel
theorem dX12_byteAt_33 : decode cX12_byteAt 33 = .ok (.if_icmp .ge 30, 3) := by decide +kernel
theorem dX12_byteAt_36 : decode cX12_byteAt 36 = .ok (.iload_n 3, 1) := by decide +kernel
theorem dX12_byteAt_37 : decode cX12_byteAt 37 = .ok (.ifCond .lt 26, 3) := by decide +kernel
theorem dX12_byteAt_40 : decode cX12_byteAt 40 = .ok (.iload_n 3, 1) := by decide +kernel
theorem dX12_byteAt_41 : decode cX12_byteAt 41 = .ok (.iload_n 2, 1) := by decide +kernel
theorem dX12_byteAt_42 : decode cX12_byteAt 42 = .ok (.ifCond .eq 12, 3) := by decide +kernel
theorem dX12_byteAt_45 : decode cX12_byteAt 45 = .ok (.aload_n 0, 1) := by decide +kernel
theorem dX12_byteAt_46 : decode cX12_byteAt 46 = .ok (.getfield 72, 3) := by decide +kernel
theorem dX12_byteAt_49 : decode cX12_byteAt 49 = .ok (.iload_n 1, 1) := by decide +kernel
theorem dX12_byteAt_50 : decode cX12_byteAt 50 = .ok (.iaload, 1) := by decide +kernel
theorem dX12_byteAt_51 : decode cX12_byteAt 51 = .ok (.goto 9, 3) := by decide +kernel
theorem dX12_byteAt_54 : decode cX12_byteAt 54 = .ok (.aload_n 0, 1) := by decide +kernel
theorem dX12_byteAt_55 : decode cX12_byteAt 55 = .ok (.getfield 23, 3) := by decide +kernel
theorem dX12_byteAt_58 : decode cX12_byteAt 58 = .ok (.iload_n 1, 1) := by decide +kernel
theorem dX12_byteAt_59 : decode cX12_byteAt 59 = .ok (.iaload, 1) := by decide +kernel
theorem dX12_byteAt_60 : decode cX12_byteAt 60 = .ok (.if_icmp .lt 6, 3) := by decide +kernel
theorem dX12_byteAt_63 : decode cX12_byteAt 63 = .ok (.bipush (-3), 2) := by decide +kernel
theorem dX12_byteAt_65 : decode cX12_byteAt 65 = .ok (.ireturn, 1) := by decide +kernel
theorem dX12_byteAt_66 : decode cX12_byteAt 66 = .ok (.iload_n 2, 1) := by decide +kernel
theorem dX12_byteAt_67 : decode cX12_byteAt 67 = .ok (.ifCond .eq 18, 3) := by decide +kernel
theorem dX12_byteAt_70 : decode cX12_byteAt 70 = .ok (.aload_n 0, 1) := by decide +kernel
theorem dX12_byteAt_71 : decode cX12_byteAt 71 = .ok (.getfield 69, 3) := by decide +kernel
theorem dX12_byteAt_74 : decode cX12_byteAt 74 = .ok (.sipush 4001, 3) := by decide +kernel
theorem dX12_byteAt_77 : decode cX12_byteAt 77 = .ok (.iload_n 1, 1) := by decide +kernel
theorem dX12_byteAt_78 : decode cX12_byteAt 78 = .ok (.imul, 1) := by decide +kernel
theorem dX12_byteAt_79 : decode cX12_byteAt 79 = .ok (.iload_n 3, 1) := by decide +kernel
theorem dX12_byteAt_80 : decode cX12_byteAt 80 = .ok (.iadd, 1) := by decide +kernel
theorem dX12_byteAt_81 : decode cX12_byteAt 81 = .ok (.iaload, 1) := by decide +kernel
theorem dX12_byteAt_82 : decode cX12_byteAt 82 = .ok (.goto 9, 3) := by decide +kernel
theorem dX12_byteAt_85 : decode cX12_byteAt 85 = .ok (.aload_n 0, 1) := by decide +kernel
theorem dX12_byteAt_86 : decode cX12_byteAt 86 = .ok (.iload_n 1, 1) := by decide +kernel
theorem dX12_byteAt_87 : decode cX12_byteAt 87 = .ok (.iload_n 3, 1) := by decide +kernel
theorem dX12_byteAt_88 : decode cX12_byteAt 88 = .ok (.invokevirtual 201, 3) := by decide +kernel
theorem dX12_byteAt_91 : decode cX12_byteAt 91 = .ok (.ireturn, 1) := by decide +kernel
abbrev wcX12_byteAt : List Cond := .code yX12_byteAt cX12_byteAt 4 (some .int) :: wsL_law
def jX12_byteAt_60 (v0 : Nat) (v1 : Int32) (v2 : Int32) (v3 : Int32) (s0 : Int32) (s1 : Int32) (g : hs_S) : Option (Int32 × hs_S) :=
  if s1 < s0 then (
    if v2 = 0 then (
      if hs_kd g v0 = 10 then
      hs_bd (fX12_kindAt v0 v1 v3 g) fun r8 g7 =>
      some (r8, g7)
      else none
    ) else (
      if hs_kd g v0 = 10 then
      if ¬ (hs_R g v0 23) = 0 then
      if hs_kd g ((hs_R g v0 23) - 1) = 100 then
      if hs_in (((4001 : Int32) * v1) + v3) (hs_ln g ((hs_R g v0 23) - 1)) = true then
      some ((hs_I g ((hs_R g v0 23) - 1) (((4001 : Int32) * v1) + v3).toNatClampNeg), g)
      else none else none else none else none
    )
  ) else (
    some ((-3 : Int32), g)
  )
def jX12_byteAt_24 (v0 : Nat) (v1 : Int32) (v2 : Int32) (v3 : Int32) (g : hs_S) : Option (Int32 × hs_S) :=
  if v1 < 0 then (
    some ((-3 : Int32), g)
  ) else (
    if hs_kd g v0 = 10 then
    if (hs_I g v0 4) ≤ v1 then (
      some ((-3 : Int32), g)
    ) else (
      if v3 < 0 then (
        some ((-3 : Int32), g)
      ) else (
        if v2 = 0 then (
          if ¬ (hs_R g v0 7) = 0 then
          if hs_kd g ((hs_R g v0 7) - 1) = 100 then
          if hs_in v1 (hs_ln g ((hs_R g v0 7) - 1)) = true then
          jX12_byteAt_60 v0 v1 v2 v3 (hs_I g ((hs_R g v0 7) - 1) v1.toNatClampNeg) v3 g
          else none else none else none
        ) else (
          if ¬ (hs_R g v0 24) = 0 then
          if hs_kd g ((hs_R g v0 24) - 1) = 100 then
          if hs_in v1 (hs_ln g ((hs_R g v0 24) - 1)) = true then
          jX12_byteAt_60 v0 v1 v2 v3 (hs_I g ((hs_R g v0 24) - 1) v1.toNatClampNeg) v3 g
          else none else none else none
        )
      )
    )
    else none
  )
def fX12_byteAt (v0 : Nat) (v1 : Int32) (v2 : Int32) (v3 : Int32) (g : hs_S) : Option (Int32 × hs_S) :=
  if v2 = 0 then (
    if hs_kd g v0 = 10 then
    if (hs_I g v0 3) = 0 then (
      some ((-2 : Int32), g)
    ) else (
      jX12_byteAt_24 v0 v1 v2 v3 g
    )
    else none
  ) else (
    if hs_kd g v0 = 10 then
    if (hs_I g v0 22) = 0 then (
      some ((-2 : Int32), g)
    ) else (
      jX12_byteAt_24 v0 v1 v2 v3 g
    )
    else none
  )
abbrev rmX12_byteAt : Room := { frames := 1, cells := 0, slots := 0, locals := 22 }
set_option maxHeartbeats 4000000 in
set_option maxRecDepth 100000 in
theorem wX12_byteAt_j60 {p : Program} {l : Launch} {e : Env} {s : State} {m : MethodId} {args : Array Value} {below : List Frame} {meth : Method} {c : Code} {B : Nat} {D : va_G} {E : Nat → ClassId} (hX : hs_cx cX12_byteAt (some .int) 4 RX12 wcX12_byteAt p s m args meth c D E) {o : Int32 × hs_S}  {v0 : Nat} {v1 : Int32} {v2 : Int32} {v3 : Int32} {s0 : Int32} {s1 : Int32}   {g : hs_S} {H : Heap} {locs : List Loc} {ls : Array Slot} (hf : jX12_byteAt_60 v0 v1 v2 v3 s0 s1 g = some o) (hP : hs_P B D E g H) (hS : hs_Sx B s.heap H locs) (hl : lv_has ls 4 [(0, .ref (B + v0)), (1, .int v1), (2, .int v2), (3, .int v3)]) : W p l e rmX12_byteAt s m args below meth c H locs 0 0 (MQ below (hs_Qi B D E o) args s 0 0 (hs_F B)) (F0 m 60 ls [.int s0, .int s1]) := by
  obtain ⟨hx, hb, hr, hml, hown, hts, hlocks, hK⟩ := id hX
  unfold jX12_byteAt_60 at hf
  refine lv_icmp_lt (tgt := 66) hx hb dX12_byteAt_60 (by decide) (fun hc => ?_) (fun hc => ?_)
  · replace hf := hs_t hf hc
    refine lv_iload_n hx hb dX12_byteAt_66 rfl (lv_at hl 2 rfl) ?_
    refine lv_if_eq (tgt := 85) hx hb dX12_byteAt_67 (by decide) (fun hc => ?_) (fun hc => ?_)
    · replace hf := hs_t hf hc
      refine lv_aload_n hx hb dX12_byteAt_85 rfl (lv_at hl 0 rfl) ?_
      refine lv_iload_n hx hb dX12_byteAt_86 rfl (lv_at hl 1 rfl) ?_
      refine lv_iload_n hx hb dX12_byteAt_87 rfl (lv_at hl 3 rfl) ?_
      obtain ⟨h6, hf⟩ := hs_ck hf
      obtain ⟨r8, g7, h9, hf⟩ := hs_bd_some hf
      refine hs_calli (va_runV (As := [.int v1, .int v3]) (rest := []) ⟨hx, hb, hml, hown, hts⟩ (ctX12_kindAt l B D E v0 v1 v3 g _ h9) (cwV 2 hts (hs_gV (fun _ h => List.mem_cons_of_mem _ h) wq604 wq605 wq606 wq5 wq607) rfl rfl rfl (by decide +kernel) ⟨Nat.le_of_ble_eq_true rfl, Nat.le_of_ble_eq_true rfl⟩) (hs_preV (r := (RX12, TX12, 48)) hP hK h6 (by decide) rfl) rfl rfl hl.1 rfl (lv_room (Nat.le_of_ble_eq_true rfl)) dX12_byteAt_88 ⟨(Nat.le_of_ble_eq_true rfl), (Nat.le_of_ble_eq_true rfl)⟩) hS (fun H locs hP hS => ?_)
      exact hs_iret hx hb hr hlocks rfl hK hP hS hf dX12_byteAt_91
    · replace hf := hs_f hf hc
      refine lv_aload_n hx hb dX12_byteAt_70 rfl (lv_at hl 0 rfl) ?_
      obtain ⟨h10, hf⟩ := hs_ck hf
      obtain ⟨h11, hf⟩ := hs_ck hf
      refine hs_getr (C := RX12) (T := TX12) (N := 48) hx hb hts (fun w h => List.mem_cons_of_mem _ (inlX12 w h)) hown hK.1 hP h10 (by decide) rfl 23 (by decide) (hts _ (List.mem_cons_of_mem _ wq141)) (fun _ h => h) rfl h11 dX12_byteAt_71 ?_
      refine lv_sipush (v := 4001) hx hb dX12_byteAt_74 (by decide) ?_
      refine lv_iload_n hx hb dX12_byteAt_77 rfl (lv_at hl 1 rfl) ?_
      refine lv_imul hx hb dX12_byteAt_78 ?_
      refine lv_iload_n hx hb dX12_byteAt_79 rfl (lv_at hl 3 rfl) ?_
      refine lv_iadd hx hb dX12_byteAt_80 ?_
      obtain ⟨h12, hf⟩ := hs_ck hf
      obtain ⟨h13, hf⟩ := hs_ck hf
      refine hs_iald hx hb hK.1 hP h12 h13 dX12_byteAt_81 ?_
      refine lv_goto (tgt := 91) hx hb dX12_byteAt_82 (by decide) ?_
      exact hs_iret hx hb hr hlocks rfl hK hP hS hf dX12_byteAt_91
  · replace hf := hs_f hf hc
    refine lv_bipush (v := -3) hx hb dX12_byteAt_63 (by decide) ?_
    exact hs_iret hx hb hr hlocks rfl hK hP hS hf dX12_byteAt_65

set_option maxHeartbeats 4000000 in
set_option maxRecDepth 100000 in
theorem wX12_byteAt_j24 {p : Program} {l : Launch} {e : Env} {s : State} {m : MethodId} {args : Array Value} {below : List Frame} {meth : Method} {c : Code} {B : Nat} {D : va_G} {E : Nat → ClassId} (hX : hs_cx cX12_byteAt (some .int) 4 RX12 wcX12_byteAt p s m args meth c D E) {o : Int32 × hs_S}  {v0 : Nat} {v1 : Int32} {v2 : Int32} {v3 : Int32}   {g : hs_S} {H : Heap} {locs : List Loc} {ls : Array Slot} (hf : jX12_byteAt_24 v0 v1 v2 v3 g = some o) (hP : hs_P B D E g H) (hS : hs_Sx B s.heap H locs) (hl : lv_has ls 4 [(0, .ref (B + v0)), (1, .int v1), (2, .int v2), (3, .int v3)]) : W p l e rmX12_byteAt s m args below meth c H locs 0 0 (MQ below (hs_Qi B D E o) args s 0 0 (hs_F B)) (F0 m 24 ls []) := by
  obtain ⟨hx, hb, hr, hml, hown, hts, hlocks, hK⟩ := id hX
  unfold jX12_byteAt_24 at hf
  refine lv_iload_n hx hb dX12_byteAt_24 rfl (lv_at hl 1 rfl) ?_
  refine lv_if_lt (tgt := 63) hx hb dX12_byteAt_25 (by decide) (fun hc => ?_) (fun hc => ?_)
  · replace hf := hs_t hf hc
    refine lv_bipush (v := -3) hx hb dX12_byteAt_63 (by decide) ?_
    exact hs_iret hx hb hr hlocks rfl hK hP hS hf dX12_byteAt_65
  · replace hf := hs_f hf hc
    refine lv_iload_n hx hb dX12_byteAt_28 rfl (lv_at hl 1 rfl) ?_
    refine lv_aload_n hx hb dX12_byteAt_29 rfl (lv_at hl 0 rfl) ?_
    obtain ⟨h2, hf⟩ := hs_ck hf
    refine hs_geti (C := RX12) (T := TX12) (N := 48) hx hb hts (fun w h => List.mem_cons_of_mem _ (inlX12 w h)) hown hK.1 hP h2 (by decide) rfl 4 (by decide) (hts _ (List.mem_cons_of_mem _ wq392)) (fun _ h => h) rfl dX12_byteAt_30 ?_
    refine lv_icmp_ge (tgt := 63) hx hb dX12_byteAt_33 (by decide) (fun hc => ?_) (fun hc => ?_)
    · replace hf := hs_t hf hc
      refine lv_bipush (v := -3) hx hb dX12_byteAt_63 (by decide) ?_
      exact hs_iret hx hb hr hlocks rfl hK hP hS hf dX12_byteAt_65
    · replace hf := hs_f hf hc
      refine lv_iload_n hx hb dX12_byteAt_36 rfl (lv_at hl 3 rfl) ?_
      refine lv_if_lt (tgt := 63) hx hb dX12_byteAt_37 (by decide) (fun hc => ?_) (fun hc => ?_)
      · replace hf := hs_t hf hc
        refine lv_bipush (v := -3) hx hb dX12_byteAt_63 (by decide) ?_
        exact hs_iret hx hb hr hlocks rfl hK hP hS hf dX12_byteAt_65
      · replace hf := hs_f hf hc
        refine lv_iload_n hx hb dX12_byteAt_40 rfl (lv_at hl 3 rfl) ?_
        refine lv_iload_n hx hb dX12_byteAt_41 rfl (lv_at hl 2 rfl) ?_
        refine lv_if_eq (tgt := 54) hx hb dX12_byteAt_42 (by decide) (fun hc => ?_) (fun hc => ?_)
        · replace hf := hs_t hf hc
          refine lv_aload_n hx hb dX12_byteAt_54 rfl (lv_at hl 0 rfl) ?_
          obtain ⟨h3, hf⟩ := hs_ck hf
          refine hs_getr (C := RX12) (T := TX12) (N := 48) hx hb hts (fun w h => List.mem_cons_of_mem _ (inlX12 w h)) hown hK.1 hP h2 (by decide) rfl 7 (by decide) (hts _ (List.mem_cons_of_mem _ wq125)) (fun _ h => h) rfl h3 dX12_byteAt_55 ?_
          refine lv_iload_n hx hb dX12_byteAt_58 rfl (lv_at hl 1 rfl) ?_
          obtain ⟨h4, hf⟩ := hs_ck hf
          obtain ⟨h5, hf⟩ := hs_ck hf
          refine hs_iald hx hb hK.1 hP h4 h5 dX12_byteAt_59 ?_
          exact wX12_byteAt_j60 hX hf hP hS (lv_sub hl [0, 1, 2, 3] rfl)
        · replace hf := hs_f hf hc
          refine lv_aload_n hx hb dX12_byteAt_45 rfl (lv_at hl 0 rfl) ?_
          obtain ⟨h14, hf⟩ := hs_ck hf
          refine hs_getr (C := RX12) (T := TX12) (N := 48) hx hb hts (fun w h => List.mem_cons_of_mem _ (inlX12 w h)) hown hK.1 hP h2 (by decide) rfl 24 (by decide) (hts _ (List.mem_cons_of_mem _ wq142)) (fun _ h => h) rfl h14 dX12_byteAt_46 ?_
          refine lv_iload_n hx hb dX12_byteAt_49 rfl (lv_at hl 1 rfl) ?_
          obtain ⟨h15, hf⟩ := hs_ck hf
          obtain ⟨h16, hf⟩ := hs_ck hf
          refine hs_iald hx hb hK.1 hP h15 h16 dX12_byteAt_50 ?_
          refine lv_goto (tgt := 60) hx hb dX12_byteAt_51 (by decide) ?_
          exact wX12_byteAt_j60 hX hf hP hS (lv_sub hl [0, 1, 2, 3] rfl)

set_option maxHeartbeats 4000000 in
set_option maxRecDepth 100000 in
theorem ctX12_byteAt (l : Launch) (B : Nat) (D : va_G) (E : Nat → ClassId) (v0 : Nat) (v1 : Int32) (v2 : Int32) (v3 : Int32) (g : hs_S) (o : Int32 × hs_S) (hf : fX12_byteAt v0 v1 v2 v3 g = some o) : Met l yX12_byteAt wcX12_byteAt rmX12_byteAt (hs_Pc B D E g [.ref (B + v0), .int v1, .int v2, .int v3]) (hs_Qi B D E o) (0) (0) (hs_F B) := by
  refine Met.ofW (cc := cX12_byteAt) (maxL := 4) (ret := (some .int)) (by decide) rfl ?_
  intro p e s m args below meth c s₁ Bd hml hv
  obtain ⟨rfl, hP, hK⟩ := hv
  have hx := Bd.exec
  have hb := Bd.bytes
  have hr := Bd.returns
  have hts := atoms_spec (ws := wcX12_byteAt) Bd.pre
  have hown : s.vm.findClass RX12 = some m.cls := findClass_of_methodNamed Bd.named
  have hlocks := Bd.notSynchronized
  have hS : hs_Sx B s.heap s.heap [] := va_S.rf
  have hX : hs_cx cX12_byteAt (some .int) 4 RX12 wcX12_byteAt p s m (List.toArray [.ref (B + v0), .int v1, .int v2, .int v3]) meth c D E := ⟨hx, hb, hr, hml, hown, hts, hlocks, hK⟩
  have hl := lv_entry ([.ref (B + v0), .int v1, .int v2, .int v3]) (n := 4) (Nat.le_of_ble_eq_true rfl)
  rw [lg_entry_eq]
  generalize (lg_sl ([.ref (B + v0), .int v1, .int v2, .int v3]) ++ List.replicate (4 - (lg_sl ([.ref (B + v0), .int v1, .int v2, .int v3])).length) Slot.unset).toArray = ls at hl ⊢
  have hl : lv_has ls 4 [(0, .ref (B + v0)), (1, .int v1), (2, .int v2), (3, .int v3)] := hl
  have hP : hs_P B D E g s.heap := hP
  unfold fX12_byteAt at hf
  refine lv_iload_n hx hb dX12_byteAt_0 rfl (lv_at hl 2 rfl) ?_
  refine lv_if_eq (tgt := 14) hx hb dX12_byteAt_1 (by decide) (fun hc => ?_) (fun hc => ?_)
  · replace hf := hs_t hf hc
    refine lv_aload_n hx hb dX12_byteAt_14 rfl (lv_at hl 0 rfl) ?_
    obtain ⟨h1, hf⟩ := hs_ck hf
    refine hs_geti (C := RX12) (T := TX12) (N := 48) hx hb hts (fun w h => List.mem_cons_of_mem _ (inlX12 w h)) hown hK.1 hP h1 (by decide) rfl 3 (by decide) (hts _ (List.mem_cons_of_mem _ wq393)) (fun _ h => h) rfl dX12_byteAt_15 ?_
    refine lv_if_ne (tgt := 24) hx hb dX12_byteAt_18 (by decide) (fun hc => ?_) (fun hc => ?_)
    · replace hf := hs_f hf hc
      exact wX12_byteAt_j24 hX hf hP hS (lv_sub hl [0, 1, 2, 3] rfl)
    · replace hf := hs_t hf hc
      refine lv_bipush (v := -2) hx hb dX12_byteAt_21 (by decide) ?_
      exact hs_iret hx hb hr hlocks rfl hK hP hS hf dX12_byteAt_23
  · replace hf := hs_f hf hc
    refine lv_aload_n hx hb dX12_byteAt_4 rfl (lv_at hl 0 rfl) ?_
    obtain ⟨h17, hf⟩ := hs_ck hf
    refine hs_geti (C := RX12) (T := TX12) (N := 48) hx hb hts (fun w h => List.mem_cons_of_mem _ (inlX12 w h)) hown hK.1 hP h17 (by decide) rfl 22 (by decide) (hts _ (List.mem_cons_of_mem _ wq394)) (fun _ h => h) rfl dX12_byteAt_5 ?_
    refine lv_if_ne (tgt := 24) hx hb dX12_byteAt_8 (by decide) (fun hc => ?_) (fun hc => ?_)
    · replace hf := hs_f hf hc
      exact wX12_byteAt_j24 hX hf hP hS (lv_sub hl [0, 1, 2, 3] rfl)
    · replace hf := hs_t hf hc
      refine lv_goto (tgt := 21) hx hb dX12_byteAt_11 (by decide) ?_
      refine lv_bipush (v := -2) hx hb dX12_byteAt_21 (by decide) ?_
      exact hs_iret hx hb hr hlocks rfl hK hP hS hf dX12_byteAt_23

theorem dX12_handler_0 : decode cX12_handler 0 = .ok (.iload_n 2, 1) := by decide +kernel
theorem dX12_handler_1 : decode cX12_handler 1 = .ok (.ifCond .eq 13, 3) := by decide +kernel
theorem dX12_handler_4 : decode cX12_handler 4 = .ok (.aload_n 0, 1) := by decide +kernel
theorem dX12_handler_5 : decode cX12_handler 5 = .ok (.getfield 195, 3) := by decide +kernel
theorem dX12_handler_8 : decode cX12_handler 8 = .ok (.ifCond .ne 16, 3) := by decide +kernel
theorem dX12_handler_11 : decode cX12_handler 11 = .ok (.goto 10, 3) := by decide +kernel
theorem dX12_handler_14 : decode cX12_handler 14 = .ok (.aload_n 0, 1) := by decide +kernel
theorem dX12_handler_15 : decode cX12_handler 15 = .ok (.getfield 191, 3) := by decide +kernel
theorem dX12_handler_18 : decode cX12_handler 18 = .ok (.ifCond .ne 6, 3) := by decide +kernel
theorem dX12_handler_21 : decode cX12_handler 21 = .ok (.bipush (-2), 2) := by decide +kernel
theorem dX12_handler_23 : decode cX12_handler 23 = .ok (.ireturn, 1) := by decide +kernel
theorem dX12_handler_24 : decode cX12_handler 24 = .ok (.iload_n 1, 1) := by decide +kernel
theorem dX12_handler_25 : decode cX12_handler 25 = .ok (.ifCond .lt 36, 3) := by decide +kernel
theorem dX12_handler_28 : decode cX12_handler 28 = .ok (.iload_n 1, 1) := by decide +kernel
theorem dX12_handler_29 : decode cX12_handler 29 = .ok (.aload_n 0, 1) := by decide +kernel
theorem dX12_handler_30 : decode cX12_handler 30 = .ok (.getfield 188, 3) := by decide +kernel
theorem dX12_handler_33 : decode cX12_handler 33 = .ok (.if_icmp .ge 28, 3) := by decide +kernel
theorem dX12_handler_36 : decode cX12_handler 36 = .ok (.iload_n 3, 1) := by decide +kernel
theorem dX12_handler_37 : decode cX12_handler 37 = .ok (.ifCond .lt 24, 3) := by decide +kernel
theorem dX12_handler_40 : decode cX12_handler 40 = .ok (.iload_n 3, 1) := by decide +kernel
theorem dX12_handler_41 : decode cX12_handler 41 = .ok (.aload_n 0, 1) := by decide +kernel
theorem dX12_handler_42 : decode cX12_handler 42 = .ok (.getfield 26, 3) := by decide +kernel
theorem dX12_handler_45 : decode cX12_handler 45 = .ok (.iload_n 1, 1) := by decide +kernel
theorem dX12_handler_46 : decode cX12_handler 46 = .ok (.iaload, 1) := by decide +kernel
theorem dX12_handler_47 : decode cX12_handler 47 = .ok (.if_icmp .ge 14, 3) := by decide +kernel
theorem dX12_handler_50 : decode cX12_handler 50 = .ok (.iload 4, 2) := by decide +kernel
theorem dX12_handler_52 : decode cX12_handler 52 = .ok (.ifCond .lt 9, 3) := by decide +kernel
theorem dX12_handler_55 : decode cX12_handler 55 = .ok (.iload 4, 2) := by decide +kernel
theorem dX12_handler_57 : decode cX12_handler 57 = .ok (.iconst 3, 1) := by decide +kernel
theorem dX12_handler_58 : decode cX12_handler 58 = .ok (.if_icmp .le 6, 3) := by decide +kernel
theorem dX12_handler_61 : decode cX12_handler 61 = .ok (.bipush (-3), 2) := by decide +kernel
theorem dX12_handler_63 : decode cX12_handler 63 = .ok (.ireturn, 1) := by decide +kernel
theorem dX12_handler_64 : decode cX12_handler 64 = .ok (.bipush 32, 2) := by decide +kernel
theorem dX12_handler_66 : decode cX12_handler 66 = .ok (.iload_n 1, 1) := by decide +kernel
theorem dX12_handler_67 : decode cX12_handler 67 = .ok (.imul, 1) := by decide +kernel
theorem dX12_handler_68 : decode cX12_handler 68 = .ok (.iconst 4, 1) := by decide +kernel
theorem dX12_handler_69 : decode cX12_handler 69 = .ok (.iload_n 3, 1) := by decide +kernel
theorem dX12_handler_70 : decode cX12_handler 70 = .ok (.imul, 1) := by decide +kernel
theorem dX12_handler_71 : decode cX12_handler 71 = .ok (.iadd, 1) := by decide +kernel
theorem dX12_handler_72 : decode cX12_handler 72 = .ok (.iload 4, 2) := by decide +kernel
theorem dX12_handler_74 : decode cX12_handler 74 = .ok (.iadd, 1) := by decide +kernel
theorem dX12_handler_75 : decode cX12_handler 75 = .ok (.istore 5, 2) := by decide +kernel
theorem dX12_handler_77 : decode cX12_handler 77 = .ok (.iload_n 2, 1) := by decide +kernel
theorem dX12_handler_78 : decode cX12_handler 78 = .ok (.ifCond .eq 13, 3) := by decide +kernel
theorem dX12_handler_81 : decode cX12_handler 81 = .ok (.aload_n 0, 1) := by decide +kernel
theorem dX12_handler_82 : decode cX12_handler 82 = .ok (.getfield 75, 3) := by decide +kernel
theorem dX12_handler_85 : decode cX12_handler 85 = .ok (.iload 5, 2) := by decide +kernel
theorem dX12_handler_87 : decode cX12_handler 87 = .ok (.iaload, 1) := by decide +kernel
theorem dX12_handler_88 : decode cX12_handler 88 = .ok (.goto 10, 3) := by decide +kernel
theorem dX12_handler_91 : decode cX12_handler 91 = .ok (.aload_n 0, 1) := by decide +kernel
theorem dX12_handler_92 : decode cX12_handler 92 = .ok (.getfield 29, 3) := by decide +kernel
theorem dX12_handler_95 : decode cX12_handler 95 = .ok (.iload 5, 2) := by decide +kernel
theorem dX12_handler_97 : decode cX12_handler 97 = .ok (.iaload, 1) := by decide +kernel
theorem dX12_handler_98 : decode cX12_handler 98 = .ok (.ireturn, 1) := by decide +kernel
abbrev wcX12_handler : List Cond := .code yX12_handler cX12_handler 6 (some .int) :: wsL_law
def jX12_handler_24 (v0 : Nat) (v1 : Int32) (v2 : Int32) (v3 : Int32) (v4 : Int32) (g : hs_S) : Option (Int32 × hs_S) :=
  if v1 < 0 then (
    some ((-3 : Int32), g)
  ) else (
    if hs_kd g v0 = 10 then
    if (hs_I g v0 4) ≤ v1 then (
      some ((-3 : Int32), g)
    ) else (
      if v3 < 0 then (
        some ((-3 : Int32), g)
      ) else (
        if ¬ (hs_R g v0 8) = 0 then
        if hs_kd g ((hs_R g v0 8) - 1) = 100 then
        if hs_in v1 (hs_ln g ((hs_R g v0 8) - 1)) = true then
        if (hs_I g ((hs_R g v0 8) - 1) v1.toNatClampNeg) ≤ v3 then (
          some ((-3 : Int32), g)
        ) else (
          if v4 < 0 then (
            some ((-3 : Int32), g)
          ) else (
            if v4 ≤ (3 : Int32) then (
              if v2 = 0 then (
                if ¬ (hs_R g v0 9) = 0 then
                if hs_kd g ((hs_R g v0 9) - 1) = 100 then
                if hs_in ((((32 : Int32) * v1) + ((4 : Int32) * v3)) + v4) (hs_ln g ((hs_R g v0 9) - 1)) = true then
                some ((hs_I g ((hs_R g v0 9) - 1) ((((32 : Int32) * v1) + ((4 : Int32) * v3)) + v4).toNatClampNeg), g)
                else none else none else none
              ) else (
                if ¬ (hs_R g v0 25) = 0 then
                if hs_kd g ((hs_R g v0 25) - 1) = 100 then
                if hs_in ((((32 : Int32) * v1) + ((4 : Int32) * v3)) + v4) (hs_ln g ((hs_R g v0 25) - 1)) = true then
                some ((hs_I g ((hs_R g v0 25) - 1) ((((32 : Int32) * v1) + ((4 : Int32) * v3)) + v4).toNatClampNeg), g)
                else none else none else none
              )
            ) else (
              some ((-3 : Int32), g)
            )
          )
        )
        else none else none else none
      )
    )
    else none
  )
def fX12_handler (v0 : Nat) (v1 : Int32) (v2 : Int32) (v3 : Int32) (v4 : Int32) (g : hs_S) : Option (Int32 × hs_S) :=
  if v2 = 0 then (
    if hs_kd g v0 = 10 then
    if (hs_I g v0 3) = 0 then (
      some ((-2 : Int32), g)
    ) else (
      jX12_handler_24 v0 v1 v2 v3 v4 g
    )
    else none
  ) else (
    if hs_kd g v0 = 10 then
    if (hs_I g v0 22) = 0 then (
      some ((-2 : Int32), g)
    ) else (
      jX12_handler_24 v0 v1 v2 v3 v4 g
    )
    else none
  )
abbrev rmX12_handler : Room := { frames := 0, cells := 0, slots := 0, locals := 0 }
set_option maxHeartbeats 4000000 in
set_option maxRecDepth 100000 in
theorem wX12_handler_j24 {p : Program} {l : Launch} {e : Env} {s : State} {m : MethodId} {args : Array Value} {below : List Frame} {meth : Method} {c : Code} {B : Nat} {D : va_G} {E : Nat → ClassId} (hX : hs_cx cX12_handler (some .int) 6 RX12 wcX12_handler p s m args meth c D E) {o : Int32 × hs_S}  {v0 : Nat} {v1 : Int32} {v2 : Int32} {v3 : Int32} {v4 : Int32}   {g : hs_S} {H : Heap} {locs : List Loc} {ls : Array Slot} (hf : jX12_handler_24 v0 v1 v2 v3 v4 g = some o) (hP : hs_P B D E g H) (hS : hs_Sx B s.heap H locs) (hl : lv_has ls 6 [(0, .ref (B + v0)), (1, .int v1), (2, .int v2), (3, .int v3), (4, .int v4)]) : W p l e rmX12_handler s m args below meth c H locs 0 0 (MQ below (hs_Qi B D E o) args s 0 0 (hs_F B)) (F0 m 24 ls []) := by
  obtain ⟨hx, hb, hr, hml, hown, hts, hlocks, hK⟩ := id hX
  unfold jX12_handler_24 at hf
  refine lv_iload_n hx hb dX12_handler_24 rfl (lv_at hl 1 rfl) ?_
  refine lv_if_lt (tgt := 61) hx hb dX12_handler_25 (by decide) (fun hc => ?_) (fun hc => ?_)
  · replace hf := hs_t hf hc
    refine lv_bipush (v := -3) hx hb dX12_handler_61 (by decide) ?_
    exact hs_iret hx hb hr hlocks rfl hK hP hS hf dX12_handler_63
  · replace hf := hs_f hf hc
    refine lv_iload_n hx hb dX12_handler_28 rfl (lv_at hl 1 rfl) ?_
    refine lv_aload_n hx hb dX12_handler_29 rfl (lv_at hl 0 rfl) ?_
    obtain ⟨h2, hf⟩ := hs_ck hf
    refine hs_geti (C := RX12) (T := TX12) (N := 48) hx hb hts (fun w h => List.mem_cons_of_mem _ (inlX12 w h)) hown hK.1 hP h2 (by decide) rfl 4 (by decide) (hts _ (List.mem_cons_of_mem _ wq392)) (fun _ h => h) rfl dX12_handler_30 ?_
    refine lv_icmp_ge (tgt := 61) hx hb dX12_handler_33 (by decide) (fun hc => ?_) (fun hc => ?_)
    · replace hf := hs_t hf hc
      refine lv_bipush (v := -3) hx hb dX12_handler_61 (by decide) ?_
      exact hs_iret hx hb hr hlocks rfl hK hP hS hf dX12_handler_63
    · replace hf := hs_f hf hc
      refine lv_iload_n hx hb dX12_handler_36 rfl (lv_at hl 3 rfl) ?_
      refine lv_if_lt (tgt := 61) hx hb dX12_handler_37 (by decide) (fun hc => ?_) (fun hc => ?_)
      · replace hf := hs_t hf hc
        refine lv_bipush (v := -3) hx hb dX12_handler_61 (by decide) ?_
        exact hs_iret hx hb hr hlocks rfl hK hP hS hf dX12_handler_63
      · replace hf := hs_f hf hc
        refine lv_iload_n hx hb dX12_handler_40 rfl (lv_at hl 3 rfl) ?_
        refine lv_aload_n hx hb dX12_handler_41 rfl (lv_at hl 0 rfl) ?_
        obtain ⟨h3, hf⟩ := hs_ck hf
        refine hs_getr (C := RX12) (T := TX12) (N := 48) hx hb hts (fun w h => List.mem_cons_of_mem _ (inlX12 w h)) hown hK.1 hP h2 (by decide) rfl 8 (by decide) (hts _ (List.mem_cons_of_mem _ wq126)) (fun _ h => h) rfl h3 dX12_handler_42 ?_
        refine lv_iload_n hx hb dX12_handler_45 rfl (lv_at hl 1 rfl) ?_
        obtain ⟨h4, hf⟩ := hs_ck hf
        obtain ⟨h5, hf⟩ := hs_ck hf
        refine hs_iald hx hb hK.1 hP h4 h5 dX12_handler_46 ?_
        refine lv_icmp_ge (tgt := 61) hx hb dX12_handler_47 (by decide) (fun hc => ?_) (fun hc => ?_)
        · replace hf := hs_t hf hc
          refine lv_bipush (v := -3) hx hb dX12_handler_61 (by decide) ?_
          exact hs_iret hx hb hr hlocks rfl hK hP hS hf dX12_handler_63
        · replace hf := hs_f hf hc
          refine lv_iload hx hb dX12_handler_50 (lv_at hl 4 rfl) ?_
          refine lv_if_lt (tgt := 61) hx hb dX12_handler_52 (by decide) (fun hc => ?_) (fun hc => ?_)
          · replace hf := hs_t hf hc
            refine lv_bipush (v := -3) hx hb dX12_handler_61 (by decide) ?_
            exact hs_iret hx hb hr hlocks rfl hK hP hS hf dX12_handler_63
          · replace hf := hs_f hf hc
            refine lv_iload hx hb dX12_handler_55 (lv_at hl 4 rfl) ?_
            refine lv_iconst (v := 3) hx hb dX12_handler_57 (by decide) ?_
            refine lv_icmp_le (tgt := 64) hx hb dX12_handler_58 (by decide) (fun hc => ?_) (fun hc => ?_)
            · replace hf := hs_t hf hc
              refine lv_bipush (v := 32) hx hb dX12_handler_64 (by decide) ?_
              refine lv_iload_n hx hb dX12_handler_66 rfl (lv_at hl 1 rfl) ?_
              refine lv_imul hx hb dX12_handler_67 ?_
              refine lv_iconst (v := 4) hx hb dX12_handler_68 (by decide) ?_
              refine lv_iload_n hx hb dX12_handler_69 rfl (lv_at hl 3 rfl) ?_
              refine lv_imul hx hb dX12_handler_70 ?_
              refine lv_iadd hx hb dX12_handler_71 ?_
              refine lv_iload hx hb dX12_handler_72 (lv_at hl 4 rfl) ?_
              refine lv_iadd hx hb dX12_handler_74 ?_
              refine lv_istore (lv' := [(5, .int ((((32 : Int32) * v1) + ((4 : Int32) * v3)) + v4)), (0, .ref (B + v0)), (1, .int v1), (2, .int v2), (3, .int v3), (4, .int v4)]) hx hb dX12_handler_75 hl (by decide) rfl (fun ls hl => ?_)
              refine lv_iload_n hx hb dX12_handler_77 rfl (lv_at hl 3 rfl) ?_
              refine lv_if_eq (tgt := 91) hx hb dX12_handler_78 (by decide) (fun hc => ?_) (fun hc => ?_)
              · replace hf := hs_t hf hc
                refine lv_aload_n hx hb dX12_handler_91 rfl (lv_at hl 1 rfl) ?_
                obtain ⟨h6, hf⟩ := hs_ck hf
                refine hs_getr (C := RX12) (T := TX12) (N := 48) hx hb hts (fun w h => List.mem_cons_of_mem _ (inlX12 w h)) hown hK.1 hP h2 (by decide) rfl 9 (by decide) (hts _ (List.mem_cons_of_mem _ wq127)) (fun _ h => h) rfl h6 dX12_handler_92 ?_
                refine lv_iload hx hb dX12_handler_95 (lv_at hl 0 rfl) ?_
                obtain ⟨h7, hf⟩ := hs_ck hf
                obtain ⟨h8, hf⟩ := hs_ck hf
                refine hs_iald hx hb hK.1 hP h7 h8 dX12_handler_97 ?_
                exact hs_iret hx hb hr hlocks rfl hK hP hS hf dX12_handler_98
              · replace hf := hs_f hf hc
                refine lv_aload_n hx hb dX12_handler_81 rfl (lv_at hl 1 rfl) ?_
                obtain ⟨h9, hf⟩ := hs_ck hf
                refine hs_getr (C := RX12) (T := TX12) (N := 48) hx hb hts (fun w h => List.mem_cons_of_mem _ (inlX12 w h)) hown hK.1 hP h2 (by decide) rfl 25 (by decide) (hts _ (List.mem_cons_of_mem _ wq143)) (fun _ h => h) rfl h9 dX12_handler_82 ?_
                refine lv_iload hx hb dX12_handler_85 (lv_at hl 0 rfl) ?_
                obtain ⟨h10, hf⟩ := hs_ck hf
                obtain ⟨h11, hf⟩ := hs_ck hf
                refine hs_iald hx hb hK.1 hP h10 h11 dX12_handler_87 ?_
                refine lv_goto (tgt := 98) hx hb dX12_handler_88 (by decide) ?_
                exact hs_iret hx hb hr hlocks rfl hK hP hS hf dX12_handler_98
            · replace hf := hs_f hf hc
              refine lv_bipush (v := -3) hx hb dX12_handler_61 (by decide) ?_
              exact hs_iret hx hb hr hlocks rfl hK hP hS hf dX12_handler_63

set_option maxHeartbeats 4000000 in
set_option maxRecDepth 100000 in
theorem ctX12_handler (l : Launch) (B : Nat) (D : va_G) (E : Nat → ClassId) (v0 : Nat) (v1 : Int32) (v2 : Int32) (v3 : Int32) (v4 : Int32) (g : hs_S) (o : Int32 × hs_S) (hf : fX12_handler v0 v1 v2 v3 v4 g = some o) : Met l yX12_handler wcX12_handler rmX12_handler (hs_Pc B D E g [.ref (B + v0), .int v1, .int v2, .int v3, .int v4]) (hs_Qi B D E o) (0) (0) (hs_F B) := by
  refine Met.ofW (cc := cX12_handler) (maxL := 6) (ret := (some .int)) (by decide) rfl ?_
  intro p e s m args below meth c s₁ Bd hml hv
  obtain ⟨rfl, hP, hK⟩ := hv
  have hx := Bd.exec
  have hb := Bd.bytes
  have hr := Bd.returns
  have hts := atoms_spec (ws := wcX12_handler) Bd.pre
  have hown : s.vm.findClass RX12 = some m.cls := findClass_of_methodNamed Bd.named
  have hlocks := Bd.notSynchronized
  have hS : hs_Sx B s.heap s.heap [] := va_S.rf
  have hX : hs_cx cX12_handler (some .int) 6 RX12 wcX12_handler p s m (List.toArray [.ref (B + v0), .int v1, .int v2, .int v3, .int v4]) meth c D E := ⟨hx, hb, hr, hml, hown, hts, hlocks, hK⟩
  have hl := lv_entry ([.ref (B + v0), .int v1, .int v2, .int v3, .int v4]) (n := 6) (Nat.le_of_ble_eq_true rfl)
  rw [lg_entry_eq]
  generalize (lg_sl ([.ref (B + v0), .int v1, .int v2, .int v3, .int v4]) ++ List.replicate (6 - (lg_sl ([.ref (B + v0), .int v1, .int v2, .int v3, .int v4])).length) Slot.unset).toArray = ls at hl ⊢
  have hl : lv_has ls 6 [(0, .ref (B + v0)), (1, .int v1), (2, .int v2), (3, .int v3), (4, .int v4)] := hl
  have hP : hs_P B D E g s.heap := hP
  unfold fX12_handler at hf
  refine lv_iload_n hx hb dX12_handler_0 rfl (lv_at hl 2 rfl) ?_
  refine lv_if_eq (tgt := 14) hx hb dX12_handler_1 (by decide) (fun hc => ?_) (fun hc => ?_)
  · replace hf := hs_t hf hc
    refine lv_aload_n hx hb dX12_handler_14 rfl (lv_at hl 0 rfl) ?_
    obtain ⟨h1, hf⟩ := hs_ck hf
    refine hs_geti (C := RX12) (T := TX12) (N := 48) hx hb hts (fun w h => List.mem_cons_of_mem _ (inlX12 w h)) hown hK.1 hP h1 (by decide) rfl 3 (by decide) (hts _ (List.mem_cons_of_mem _ wq393)) (fun _ h => h) rfl dX12_handler_15 ?_
    refine lv_if_ne (tgt := 24) hx hb dX12_handler_18 (by decide) (fun hc => ?_) (fun hc => ?_)
    · replace hf := hs_f hf hc
      exact wX12_handler_j24 hX hf hP hS (lv_sub hl [0, 1, 2, 3, 4] rfl)
    · replace hf := hs_t hf hc
      refine lv_bipush (v := -2) hx hb dX12_handler_21 (by decide) ?_
      exact hs_iret hx hb hr hlocks rfl hK hP hS hf dX12_handler_23
  · replace hf := hs_f hf hc
    refine lv_aload_n hx hb dX12_handler_4 rfl (lv_at hl 0 rfl) ?_
    obtain ⟨h12, hf⟩ := hs_ck hf
    refine hs_geti (C := RX12) (T := TX12) (N := 48) hx hb hts (fun w h => List.mem_cons_of_mem _ (inlX12 w h)) hown hK.1 hP h12 (by decide) rfl 22 (by decide) (hts _ (List.mem_cons_of_mem _ wq394)) (fun _ h => h) rfl dX12_handler_5 ?_
    refine lv_if_ne (tgt := 24) hx hb dX12_handler_8 (by decide) (fun hc => ?_) (fun hc => ?_)
    · replace hf := hs_f hf hc
      exact wX12_handler_j24 hX hf hP hS (lv_sub hl [0, 1, 2, 3, 4] rfl)
    · replace hf := hs_t hf hc
      refine lv_goto (tgt := 21) hx hb dX12_handler_11 (by decide) ?_
      refine lv_bipush (v := -2) hx hb dX12_handler_21 (by decide) ?_
      exact hs_iret hx hb hr hlocks rfl hK hP hS hf dX12_handler_23

theorem dX12_block_0 : decode cX12_block 0 = .ok (.aload_n 0, 1) := by decide +kernel
theorem dX12_block_1 : decode cX12_block 1 = .ok (.getfield 191, 3) := by decide +kernel
theorem dX12_block_4 : decode cX12_block 4 = .ok (.ifCond .ne 6, 3) := by decide +kernel
theorem dX12_block_7 : decode cX12_block 7 = .ok (.bipush (-2), 2) := by decide +kernel
theorem dX12_block_9 : decode cX12_block 9 = .ok (.ireturn, 1) := by decide +kernel
theorem dX12_block_10 : decode cX12_block 10 = .ok (.iload_n 1, 1) := by decide +kernel
theorem dX12_block_11 : decode cX12_block 11 = .ok (.ifCond .lt 33, 3) := by decide +kernel
theorem dX12_block_14 : decode cX12_block 14 = .ok (.iload_n 1, 1) := by decide +kernel
theorem dX12_block_15 : decode cX12_block 15 = .ok (.aload_n 0, 1) := by decide +kernel
theorem dX12_block_16 : decode cX12_block 16 = .ok (.getfield 188, 3) := by decide +kernel
theorem dX12_block_19 : decode cX12_block 19 = .ok (.if_icmp .ge 25, 3) := by decide +kernel
theorem dX12_block_22 : decode cX12_block 22 = .ok (.iload_n 3, 1) := by decide +kernel
theorem dX12_block_23 : decode cX12_block 23 = .ok (.ifCond .lt 21, 3) := by decide +kernel
theorem dX12_block_26 : decode cX12_block 26 = .ok (.iload_n 3, 1) := by decide +kernel
theorem dX12_block_27 : decode cX12_block 27 = .ok (.iconst 1, 1) := by decide +kernel
theorem dX12_block_28 : decode cX12_block 28 = .ok (.if_icmp .gt 16, 3) := by decide +kernel
theorem dX12_block_31 : decode cX12_block 31 = .ok (.iload_n 2, 1) := by decide +kernel
theorem dX12_block_32 : decode cX12_block 32 = .ok (.ifCond .lt 12, 3) := by decide +kernel
theorem dX12_block_35 : decode cX12_block 35 = .ok (.iload_n 2, 1) := by decide +kernel
theorem dX12_block_36 : decode cX12_block 36 = .ok (.aload_n 0, 1) := by decide +kernel
theorem dX12_block_37 : decode cX12_block 37 = .ok (.iload_n 1, 1) := by decide +kernel
theorem dX12_block_38 : decode cX12_block 38 = .ok (.invokevirtual 211, 3) := by decide +kernel
theorem dX12_block_41 : decode cX12_block 41 = .ok (.if_icmp .lt 6, 3) := by decide +kernel
theorem dX12_block_44 : decode cX12_block 44 = .ok (.bipush (-3), 2) := by decide +kernel
theorem dX12_block_46 : decode cX12_block 46 = .ok (.ireturn, 1) := by decide +kernel
theorem dX12_block_47 : decode cX12_block 47 = .ok (.iconst (-1), 1) := by decide +kernel
theorem dX12_block_48 : decode cX12_block 48 = .ok (.istore 4, 2) := by decide +kernel
theorem dX12_block_50 : decode cX12_block 50 = .ok (.iconst 0, 1) := by decide +kernel
theorem dX12_block_51 : decode cX12_block 51 = .ok (.istore 5, 2) := by decide +kernel
theorem dX12_block_53 : decode cX12_block 53 = .ok (.iload 5, 2) := by decide +kernel
theorem dX12_block_55 : decode cX12_block 55 = .ok (.iload_n 2, 1) := by decide +kernel
theorem dX12_block_56 : decode cX12_block 56 = .ok (.if_icmp .gt 28, 3) := by decide +kernel
theorem dX12_block_59 : decode cX12_block 59 = .ok (.iinc 4 1, 3) := by decide +kernel
theorem dX12_block_62 : decode cX12_block 62 = .ok (.aload_n 0, 1) := by decide +kernel
theorem dX12_block_63 : decode cX12_block 63 = .ok (.getfield 39, 3) := by decide +kernel
theorem dX12_block_66 : decode cX12_block 66 = .ok (.iload 4, 2) := by decide +kernel
theorem dX12_block_68 : decode cX12_block 68 = .ok (.baload, 1) := by decide +kernel
theorem dX12_block_69 : decode cX12_block 69 = .ok (.ifCond .ne 9, 3) := by decide +kernel
theorem dX12_block_72 : decode cX12_block 72 = .ok (.iinc 4 1, 3) := by decide +kernel
theorem dX12_block_75 : decode cX12_block 75 = .ok (.goto (-13), 3) := by decide +kernel
theorem dX12_block_78 : decode cX12_block 78 = .ok (.iinc 5 1, 3) := by decide +kernel
theorem dX12_block_81 : decode cX12_block 81 = .ok (.goto (-28), 3) := by decide +kernel
theorem dX12_block_84 : decode cX12_block 84 = .ok (.iload_n 3, 1) := by decide +kernel
theorem dX12_block_85 : decode cX12_block 85 = .ok (.ifCond .ne 8, 3) := by decide +kernel
theorem dX12_block_88 : decode cX12_block 88 = .ok (.iload 4, 2) := by decide +kernel
theorem dX12_block_90 : decode cX12_block 90 = .ok (.goto 10, 3) := by decide +kernel
theorem dX12_block_93 : decode cX12_block 93 = .ok (.aload_n 0, 1) := by decide +kernel
theorem dX12_block_94 : decode cX12_block 94 = .ok (.iload_n 1, 1) := by decide +kernel
theorem dX12_block_95 : decode cX12_block 95 = .ok (.iload 4, 2) := by decide +kernel
theorem dX12_block_97 : decode cX12_block 97 = .ok (.invokevirtual 214, 3) := by decide +kernel
theorem dX12_block_100 : decode cX12_block 100 = .ok (.ireturn, 1) := by decide +kernel
abbrev wcX12_block : List Cond := .code yX12_block cX12_block 6 (some .int) :: wsL_law
def lX12_block_62 : Nat → Nat → Int32 → Int32 → Int32 → Int32 → Int32 → hs_S → Option (Int32 × hs_S)
  | 0, _, _, _, _, _, _, _ => none
  | n + 1, v0, v1, v2, v3, v4, v5, g =>
    if hs_kd g v0 = 10 then
    if ¬ (hs_R g v0 12) = 0 then
    if hs_kd g ((hs_R g v0 12) - 1) = 101 then
    if hs_in v4 (hs_ln g ((hs_R g v0 12) - 1)) = true then
    if (hs_I g ((hs_R g v0 12) - 1) v4.toNatClampNeg) = 0 then (
      lX12_block_62 n v0 v1 v2 v3 (v4 + (1 : Int32)) v5 g
    ) else (
      some (v4, g)
    )
    else none else none else none else none
theorem lX12_block_62_s (n : Nat) (v0 : Nat) (v1 : Int32) (v2 : Int32) (v3 : Int32) (v4 : Int32) (v5 : Int32) (g : hs_S) : lX12_block_62 (n + 1) v0 v1 v2 v3 v4 v5 g =
    if hs_kd g v0 = 10 then
    if ¬ (hs_R g v0 12) = 0 then
    if hs_kd g ((hs_R g v0 12) - 1) = 101 then
    if hs_in v4 (hs_ln g ((hs_R g v0 12) - 1)) = true then
    if (hs_I g ((hs_R g v0 12) - 1) v4.toNatClampNeg) = 0 then (
      lX12_block_62 n v0 v1 v2 v3 (v4 + (1 : Int32)) v5 g
    ) else (
      some (v4, g)
    )
    else none else none else none else none := rfl
def lX12_block_53 : Nat → Nat → Int32 → Int32 → Int32 → Int32 → Int32 → hs_S → Option (Int32 × hs_S)
  | 0, _, _, _, _, _, _, _ => none
  | n + 1, v0, v1, v2, v3, v4, v5, g =>
    if v2 < v5 then (
      some (v4, g)
    ) else (
      hs_bd (lX12_block_62 hs_N v0 v1 v2 v3 (v4 + (1 : Int32)) v5 g) fun x9 g11 =>
      lX12_block_53 n v0 v1 v2 v3 x9 (v5 + (1 : Int32)) g11
    )
theorem lX12_block_53_s (n : Nat) (v0 : Nat) (v1 : Int32) (v2 : Int32) (v3 : Int32) (v4 : Int32) (v5 : Int32) (g : hs_S) : lX12_block_53 (n + 1) v0 v1 v2 v3 v4 v5 g =
    if v2 < v5 then (
      some (v4, g)
    ) else (
      hs_bd (lX12_block_62 hs_N v0 v1 v2 v3 (v4 + (1 : Int32)) v5 g) fun x9 g11 =>
      lX12_block_53 n v0 v1 v2 v3 x9 (v5 + (1 : Int32)) g11
    ) := rfl
def fX12_block (v0 : Nat) (v1 : Int32) (v2 : Int32) (v3 : Int32) (g : hs_S) : Option (Int32 × hs_S) :=
  if hs_kd g v0 = 10 then
  if (hs_I g v0 3) = 0 then (
    some ((-2 : Int32), g)
  ) else (
    if v1 < 0 then (
      some ((-3 : Int32), g)
    ) else (
      if (hs_I g v0 4) ≤ v1 then (
        some ((-3 : Int32), g)
      ) else (
        if v3 < 0 then (
          some ((-3 : Int32), g)
        ) else (
          if (1 : Int32) < v3 then (
            some ((-3 : Int32), g)
          ) else (
            if v2 < 0 then (
              some ((-3 : Int32), g)
            ) else (
              hs_bd (fX12_countBlocks v0 v1 g) fun r3 g2 =>
              if v2 < r3 then (
                hs_bd (lX12_block_53 hs_N v0 v1 v2 v3 (-1 : Int32) (0 : Int32) g2) fun x13 g15 =>
                if v3 = 0 then (
                  some (x13, g15)
                ) else (
                  if hs_kd g15 v0 = 10 then
                  hs_bd (fX12_sum v0 v1 x13 g15) fun r19 g18 =>
                  some (r19, g18)
                  else none
                )
              ) else (
                some ((-3 : Int32), g2)
              )
            )
          )
        )
      )
    )
  )
  else none
abbrev rmX12_block : Room := { frames := 5, cells := 0, slots := 0, locals := 113 }
set_option maxHeartbeats 4000000 in
set_option maxRecDepth 100000 in
theorem wX12_block_62 {p : Program} {l : Launch} {e : Env} {s : State} {m : MethodId} {args : Array Value} {below : List Frame} {meth : Method} {c : Code} {B : Nat} {D : va_G} {E : Nat → ClassId} (hX : hs_cx cX12_block (some .int) 6 RX12 wcX12_block p s m args meth c D E) {Q : State → Prop} {o : Int32 × hs_S} {v0 : Nat} {v1 : Int32} {v2 : Int32} {v3 : Int32} {v5 : Int32} (hex0 : ∀ (H : Heap) (locs : List Loc) (ls : Array Slot), hs_P B D E (o.2) H → hs_Sx B s.heap H locs → lv_has ls 6 [(0, .ref (B + v0)), (1, .int v1), (2, .int v2), (3, .int v3), (4, .int (o.1)), (5, .int v5)] → W p l e rmX12_block s m args below meth c H locs 0 0 Q (F0 m 78 ls [])) : ∀ (n : Nat) (v4 : Int32) (g : hs_S), lX12_block_62 n v0 v1 v2 v3 v4 v5 g = some o → ∀ (H : Heap) (locs : List Loc) (ls : Array Slot), hs_P B D E g H → hs_Sx B s.heap H locs → lv_has ls 6 [(0, .ref (B + v0)), (1, .int v1), (2, .int v2), (3, .int v3), (4, .int v4), (5, .int v5)] → W p l e rmX12_block s m args below meth c H locs 0 0 Q (F0 m 62 ls []) := by
  obtain ⟨hx, hb, hr, hml, hown, hts, hlocks, hK⟩ := id hX
  intro n
  induction n with
  | zero =>
    intro v4 g hf
    cases hf
  | succ n ih =>
    intro v4 g hf H locs ls hP hS hl
    replace hf := (lX12_block_62_s n v0 v1 v2 v3 v4 v5 g).symm.trans hf
    refine lv_aload_n hx hb dX12_block_62 rfl (lv_at hl 0 rfl) ?_
    obtain ⟨h5, hf⟩ := hs_ck hf
    obtain ⟨h6, hf⟩ := hs_ck hf
    refine hs_getr (C := RX12) (T := TX12) (N := 48) hx hb hts (fun w h => List.mem_cons_of_mem _ (inlX12 w h)) hown hK.1 hP h5 (by decide) rfl 12 (by decide) (hts _ (List.mem_cons_of_mem _ wq131)) (fun _ h => h) rfl h6 dX12_block_63 ?_
    refine lv_iload hx hb dX12_block_66 (lv_at hl 4 rfl) ?_
    obtain ⟨h7, hf⟩ := hs_ck hf
    obtain ⟨h8, hf⟩ := hs_ck hf
    refine hs_zald hx hb hK.1 hP h7 h8 dX12_block_68 ?_
    refine lv_if_ne (tgt := 78) hx hb dX12_block_69 (by decide) (fun hc => ?_) (fun hc => ?_)
    · replace hf := hs_f hf hc
      obtain rfl := Option.some.inj hf
      exact hex0 _ _ _ hP hS (lv_sub hl [0, 1, 2, 3, 4, 5] rfl)
    · replace hf := hs_t hf hc
      refine lv_iinc (v := (v4 + (1 : Int32))) (lv' := [(4, .int (v4 + (1 : Int32))), (0, .ref (B + v0)), (1, .int v1), (2, .int v2), (3, .int v3), (5, .int v5)]) hx hb dX12_block_72 hl (k := 4) rfl (by rfl) (by decide) rfl (fun ls hl => ?_)
      refine lv_goto (tgt := 62) hx hb dX12_block_75 (by decide) ?_
      exact ih _ _ hf _ _ _ hP hS (lv_sub hl [1, 2, 3, 4, 0, 5] rfl)

set_option maxHeartbeats 4000000 in
set_option maxRecDepth 100000 in
theorem wX12_block_53 {p : Program} {l : Launch} {e : Env} {s : State} {m : MethodId} {args : Array Value} {below : List Frame} {meth : Method} {c : Code} {B : Nat} {D : va_G} {E : Nat → ClassId} (hX : hs_cx cX12_block (some .int) 6 RX12 wcX12_block p s m args meth c D E) {Q : State → Prop} {o : Int32 × hs_S} {v0 : Nat} {v1 : Int32} {v2 : Int32} {v3 : Int32} (hex0 : ∀ (H : Heap) (locs : List Loc) (ls : Array Slot), hs_P B D E (o.2) H → hs_Sx B s.heap H locs → lv_has ls 6 [(0, .ref (B + v0)), (1, .int v1), (3, .int v3), (4, .int (o.1))] → W p l e rmX12_block s m args below meth c H locs 0 0 Q (F0 m 84 ls [])) : ∀ (n : Nat) (v4 : Int32) (v5 : Int32) (g : hs_S), lX12_block_53 n v0 v1 v2 v3 v4 v5 g = some o → ∀ (H : Heap) (locs : List Loc) (ls : Array Slot), hs_P B D E g H → hs_Sx B s.heap H locs → lv_has ls 6 [(0, .ref (B + v0)), (1, .int v1), (2, .int v2), (3, .int v3), (4, .int v4), (5, .int v5)] → W p l e rmX12_block s m args below meth c H locs 0 0 Q (F0 m 53 ls []) := by
  obtain ⟨hx, hb, hr, hml, hown, hts, hlocks, hK⟩ := id hX
  intro n
  induction n with
  | zero =>
    intro v4 v5 g hf
    cases hf
  | succ n ih =>
    intro v4 v5 g hf H locs ls hP hS hl
    replace hf := (lX12_block_53_s n v0 v1 v2 v3 v4 v5 g).symm.trans hf
    refine lv_iload hx hb dX12_block_53 (lv_at hl 5 rfl) ?_
    refine lv_iload_n hx hb dX12_block_55 rfl (lv_at hl 2 rfl) ?_
    refine lv_icmp_gt (tgt := 84) hx hb dX12_block_56 (by decide) (fun hc => ?_) (fun hc => ?_)
    · replace hf := hs_t hf hc
      obtain rfl := Option.some.inj hf
      exact hex0 _ _ _ hP hS (lv_sub hl [0, 1, 3, 4] rfl)
    · replace hf := hs_f hf hc
      refine lv_iinc (v := (v4 + (1 : Int32))) (lv' := [(4, .int (v4 + (1 : Int32))), (0, .ref (B + v0)), (1, .int v1), (2, .int v2), (3, .int v3), (5, .int v5)]) hx hb dX12_block_59 hl (k := 4) rfl (by rfl) (by decide) rfl (fun ls hl => ?_)
      obtain ⟨x9, g11, h12, hf⟩ := hs_bd_some hf
      refine wX12_block_62 hX (fun H locs ls hP hS hl => ?_) hs_N _ _ h12 _ _ _ hP hS (lv_sub hl [1, 2, 3, 4, 0, 5] rfl)
      refine lv_iinc (v := (v5 + (1 : Int32))) (lv' := [(5, .int (v5 + (1 : Int32))), (0, .ref (B + v0)), (1, .int v1), (2, .int v2), (3, .int v3), (4, .int x9)]) hx hb dX12_block_78 hl (k := 5) rfl (by rfl) (by decide) rfl (fun ls hl => ?_)
      refine lv_goto (tgt := 53) hx hb dX12_block_81 (by decide) ?_
      exact ih _ _ _ hf _ _ _ hP hS (lv_sub hl [1, 2, 3, 4, 5, 0] rfl)

set_option maxHeartbeats 4000000 in
set_option maxRecDepth 100000 in
theorem ctX12_block (l : Launch) (B : Nat) (D : va_G) (E : Nat → ClassId) (v0 : Nat) (v1 : Int32) (v2 : Int32) (v3 : Int32) (g : hs_S) (o : Int32 × hs_S) (hf : fX12_block v0 v1 v2 v3 g = some o) : Met l yX12_block wcX12_block rmX12_block (hs_Pc B D E g [.ref (B + v0), .int v1, .int v2, .int v3]) (hs_Qi B D E o) (0) (0) (hs_F B) := by
  refine Met.ofW (cc := cX12_block) (maxL := 6) (ret := (some .int)) (by decide) rfl ?_
  intro p e s m args below meth c s₁ Bd hml hv
  obtain ⟨rfl, hP, hK⟩ := hv
  have hx := Bd.exec
  have hb := Bd.bytes
  have hr := Bd.returns
  have hts := atoms_spec (ws := wcX12_block) Bd.pre
  have hown : s.vm.findClass RX12 = some m.cls := findClass_of_methodNamed Bd.named
  have hlocks := Bd.notSynchronized
  have hS : hs_Sx B s.heap s.heap [] := va_S.rf
  have hX : hs_cx cX12_block (some .int) 6 RX12 wcX12_block p s m (List.toArray [.ref (B + v0), .int v1, .int v2, .int v3]) meth c D E := ⟨hx, hb, hr, hml, hown, hts, hlocks, hK⟩
  have hl := lv_entry ([.ref (B + v0), .int v1, .int v2, .int v3]) (n := 6) (Nat.le_of_ble_eq_true rfl)
  rw [lg_entry_eq]
  generalize (lg_sl ([.ref (B + v0), .int v1, .int v2, .int v3]) ++ List.replicate (6 - (lg_sl ([.ref (B + v0), .int v1, .int v2, .int v3])).length) Slot.unset).toArray = ls at hl ⊢
  have hl : lv_has ls 6 [(0, .ref (B + v0)), (1, .int v1), (2, .int v2), (3, .int v3)] := hl
  have hP : hs_P B D E g s.heap := hP
  unfold fX12_block at hf
  refine lv_aload_n hx hb dX12_block_0 rfl (lv_at hl 0 rfl) ?_
  obtain ⟨h1, hf⟩ := hs_ck hf
  refine hs_geti (C := RX12) (T := TX12) (N := 48) hx hb hts (fun w h => List.mem_cons_of_mem _ (inlX12 w h)) hown hK.1 hP h1 (by decide) rfl 3 (by decide) (hts _ (List.mem_cons_of_mem _ wq393)) (fun _ h => h) rfl dX12_block_1 ?_
  refine lv_if_ne (tgt := 10) hx hb dX12_block_4 (by decide) (fun hc => ?_) (fun hc => ?_)
  · replace hf := hs_f hf hc
    refine lv_iload_n hx hb dX12_block_10 rfl (lv_at hl 1 rfl) ?_
    refine lv_if_lt (tgt := 44) hx hb dX12_block_11 (by decide) (fun hc => ?_) (fun hc => ?_)
    · replace hf := hs_t hf hc
      refine lv_bipush (v := -3) hx hb dX12_block_44 (by decide) ?_
      exact hs_iret hx hb hr hlocks rfl hK hP hS hf dX12_block_46
    · replace hf := hs_f hf hc
      refine lv_iload_n hx hb dX12_block_14 rfl (lv_at hl 1 rfl) ?_
      refine lv_aload_n hx hb dX12_block_15 rfl (lv_at hl 0 rfl) ?_
      refine hs_geti (C := RX12) (T := TX12) (N := 48) hx hb hts (fun w h => List.mem_cons_of_mem _ (inlX12 w h)) hown hK.1 hP h1 (by decide) rfl 4 (by decide) (hts _ (List.mem_cons_of_mem _ wq392)) (fun _ h => h) rfl dX12_block_16 ?_
      refine lv_icmp_ge (tgt := 44) hx hb dX12_block_19 (by decide) (fun hc => ?_) (fun hc => ?_)
      · replace hf := hs_t hf hc
        refine lv_bipush (v := -3) hx hb dX12_block_44 (by decide) ?_
        exact hs_iret hx hb hr hlocks rfl hK hP hS hf dX12_block_46
      · replace hf := hs_f hf hc
        refine lv_iload_n hx hb dX12_block_22 rfl (lv_at hl 3 rfl) ?_
        refine lv_if_lt (tgt := 44) hx hb dX12_block_23 (by decide) (fun hc => ?_) (fun hc => ?_)
        · replace hf := hs_t hf hc
          refine lv_bipush (v := -3) hx hb dX12_block_44 (by decide) ?_
          exact hs_iret hx hb hr hlocks rfl hK hP hS hf dX12_block_46
        · replace hf := hs_f hf hc
          refine lv_iload_n hx hb dX12_block_26 rfl (lv_at hl 3 rfl) ?_
          refine lv_iconst (v := 1) hx hb dX12_block_27 (by decide) ?_
          refine lv_icmp_gt (tgt := 44) hx hb dX12_block_28 (by decide) (fun hc => ?_) (fun hc => ?_)
          · replace hf := hs_t hf hc
            refine lv_bipush (v := -3) hx hb dX12_block_44 (by decide) ?_
            exact hs_iret hx hb hr hlocks rfl hK hP hS hf dX12_block_46
          · replace hf := hs_f hf hc
            refine lv_iload_n hx hb dX12_block_31 rfl (lv_at hl 2 rfl) ?_
            refine lv_if_lt (tgt := 44) hx hb dX12_block_32 (by decide) (fun hc => ?_) (fun hc => ?_)
            · replace hf := hs_t hf hc
              refine lv_bipush (v := -3) hx hb dX12_block_44 (by decide) ?_
              exact hs_iret hx hb hr hlocks rfl hK hP hS hf dX12_block_46
            · replace hf := hs_f hf hc
              refine lv_iload_n hx hb dX12_block_35 rfl (lv_at hl 2 rfl) ?_
              refine lv_aload_n hx hb dX12_block_36 rfl (lv_at hl 0 rfl) ?_
              refine lv_iload_n hx hb dX12_block_37 rfl (lv_at hl 1 rfl) ?_
              obtain ⟨r3, g2, h4, hf⟩ := hs_bd_some hf
              refine hs_calli (va_runV (As := [.int v1]) (rest := [.int v2]) ⟨hx, hb, hml, hown, hts⟩ (ctX12_countBlocks l B D E v0 v1 g _ h4) (cwV 1 hts (hs_gV (fun _ h => List.mem_cons_of_mem _ h) wq646 wq647 wq648 wq5 wq649) rfl rfl rfl (by decide +kernel) ⟨Nat.le_of_ble_eq_true rfl, Nat.le_of_ble_eq_true rfl⟩) (hs_preV (r := (RX12, TX12, 48)) hP hK h1 (by decide) rfl) rfl rfl hl.1 rfl (lv_room (Nat.le_of_ble_eq_true rfl)) dX12_block_38 ⟨(Nat.le_of_ble_eq_true rfl), (Nat.le_of_ble_eq_true rfl)⟩) hS (fun H locs hP hS => ?_)
              refine lv_icmp_lt (tgt := 47) hx hb dX12_block_41 (by decide) (fun hc => ?_) (fun hc => ?_)
              · replace hf := hs_t hf hc
                refine lv_iconst (v := -1) hx hb dX12_block_47 (by decide) ?_
                refine lv_istore (lv' := [(4, .int (-1 : Int32)), (0, .ref (B + v0)), (1, .int v1), (2, .int v2), (3, .int v3)]) hx hb dX12_block_48 hl (by decide) rfl (fun ls hl => ?_)
                refine lv_iconst (v := 0) hx hb dX12_block_50 (by decide) ?_
                refine lv_istore (lv' := [(5, .int (0 : Int32)), (4, .int (-1 : Int32)), (0, .ref (B + v0)), (1, .int v1), (2, .int v2), (3, .int v3)]) hx hb dX12_block_51 hl (by decide) rfl (fun ls hl => ?_)
                obtain ⟨x13, g15, h16, hf⟩ := hs_bd_some hf
                refine wX12_block_53 hX (fun H locs ls hP hS hl => ?_) hs_N _ _ _ h16 _ _ _ hP hS (lv_sub hl [2, 3, 4, 5, 1, 0] rfl)
                refine lv_iload_n hx hb dX12_block_84 rfl (lv_at hl 2 rfl) ?_
                refine lv_if_ne (tgt := 93) hx hb dX12_block_85 (by decide) (fun hc => ?_) (fun hc => ?_)
                · replace hf := hs_f hf hc
                  refine lv_aload_n hx hb dX12_block_93 rfl (lv_at hl 0 rfl) ?_
                  refine lv_iload_n hx hb dX12_block_94 rfl (lv_at hl 1 rfl) ?_
                  refine lv_iload hx hb dX12_block_95 (lv_at hl 3 rfl) ?_
                  obtain ⟨h17, hf⟩ := hs_ck hf
                  obtain ⟨r19, g18, h20, hf⟩ := hs_bd_some hf
                  refine hs_calli (va_runV (As := [.int v1, .int x13]) (rest := []) ⟨hx, hb, hml, hown, hts⟩ (ctX12_sum l B D E v0 v1 x13 g15 _ h20) (cwV 2 hts (hs_gV (fun _ h => List.mem_cons_of_mem _ h) wq616 wq617 wq618 wq5 wq619) rfl rfl rfl (by decide +kernel) ⟨Nat.le_of_ble_eq_true rfl, Nat.le_of_ble_eq_true rfl⟩) (hs_preV (r := (RX12, TX12, 48)) hP hK h17 (by decide) rfl) rfl rfl hl.1 rfl (lv_room (Nat.le_of_ble_eq_true rfl)) dX12_block_97 ⟨(Nat.le_of_ble_eq_true rfl), (Nat.le_of_ble_eq_true rfl)⟩) hS (fun H locs hP hS => ?_)
                  exact hs_iret hx hb hr hlocks rfl hK hP hS hf dX12_block_100
                · replace hf := hs_t hf hc
                  refine lv_iload hx hb dX12_block_88 (lv_at hl 3 rfl) ?_
                  refine lv_goto (tgt := 100) hx hb dX12_block_90 (by decide) ?_
                  exact hs_iret hx hb hr hlocks rfl hK hP hS hf dX12_block_100
              · replace hf := hs_f hf hc
                refine lv_bipush (v := -3) hx hb dX12_block_44 (by decide) ?_
                exact hs_iret hx hb hr hlocks rfl hK hP hS hf dX12_block_46
  · replace hf := hs_t hf hc
    refine lv_bipush (v := -2) hx hb dX12_block_7 (by decide) ?_
    exact hs_iret hx hb hr hlocks rfl hK hP hS hf dX12_block_9

theorem dX12_enter_0 : decode cX12_enter 0 = .ok (.aload_n 0, 1) := by decide +kernel
theorem dX12_enter_1 : decode cX12_enter 1 = .ok (.getfield 102, 3) := by decide +kernel
theorem dX12_enter_4 : decode cX12_enter 4 = .ok (.aload_n 0, 1) := by decide +kernel
theorem dX12_enter_5 : decode cX12_enter 5 = .ok (.getfield 254, 3) := by decide +kernel
theorem dX12_enter_8 : decode cX12_enter 8 = .ok (.iload_n 1, 1) := by decide +kernel
theorem dX12_enter_9 : decode cX12_enter 9 = .ok (.iastore, 1) := by decide +kernel
theorem dX12_enter_10 : decode cX12_enter 10 = .ok (.aload_n 0, 1) := by decide +kernel
theorem dX12_enter_11 : decode cX12_enter 11 = .ok (.getfield 105, 3) := by decide +kernel
theorem dX12_enter_14 : decode cX12_enter 14 = .ok (.aload_n 0, 1) := by decide +kernel
theorem dX12_enter_15 : decode cX12_enter 15 = .ok (.getfield 254, 3) := by decide +kernel
theorem dX12_enter_18 : decode cX12_enter 18 = .ok (.iconst 0, 1) := by decide +kernel
theorem dX12_enter_19 : decode cX12_enter 19 = .ok (.iastore, 1) := by decide +kernel
theorem dX12_enter_20 : decode cX12_enter 20 = .ok (.aload_n 0, 1) := by decide +kernel
theorem dX12_enter_21 : decode cX12_enter 21 = .ok (.getfield 108, 3) := by decide +kernel
theorem dX12_enter_24 : decode cX12_enter 24 = .ok (.aload_n 0, 1) := by decide +kernel
theorem dX12_enter_25 : decode cX12_enter 25 = .ok (.getfield 254, 3) := by decide +kernel
theorem dX12_enter_28 : decode cX12_enter 28 = .ok (.iconst 0, 1) := by decide +kernel
theorem dX12_enter_29 : decode cX12_enter 29 = .ok (.iastore, 1) := by decide +kernel
theorem dX12_enter_30 : decode cX12_enter 30 = .ok (.iconst 0, 1) := by decide +kernel
theorem dX12_enter_31 : decode cX12_enter 31 = .ok (.istore_n 2, 1) := by decide +kernel
theorem dX12_enter_32 : decode cX12_enter 32 = .ok (.iload_n 2, 1) := by decide +kernel
theorem dX12_enter_33 : decode cX12_enter 33 = .ok (.bipush 20, 2) := by decide +kernel
theorem dX12_enter_35 : decode cX12_enter 35 = .ok (.if_icmp .ge 24, 3) := by decide +kernel
theorem dX12_enter_38 : decode cX12_enter 38 = .ok (.aload_n 0, 1) := by decide +kernel
theorem dX12_enter_39 : decode cX12_enter 39 = .ok (.getfield 114, 3) := by decide +kernel
theorem dX12_enter_42 : decode cX12_enter 42 = .ok (.bipush 20, 2) := by decide +kernel
theorem dX12_enter_44 : decode cX12_enter 44 = .ok (.aload_n 0, 1) := by decide +kernel
theorem dX12_enter_45 : decode cX12_enter 45 = .ok (.getfield 254, 3) := by decide +kernel
theorem dX12_enter_48 : decode cX12_enter 48 = .ok (.imul, 1) := by decide +kernel
theorem dX12_enter_49 : decode cX12_enter 49 = .ok (.iload_n 2, 1) := by decide +kernel
theorem dX12_enter_50 : decode cX12_enter 50 = .ok (.iadd, 1) := by decide +kernel
theorem dX12_enter_51 : decode cX12_enter 51 = .ok (.iconst 0, 1) := by decide +kernel
theorem dX12_enter_52 : decode cX12_enter 52 = .ok (.iastore, 1) := by decide +kernel
theorem dX12_enter_53 : decode cX12_enter 53 = .ok (.iinc 2 1, 3) := by decide +kernel
theorem dX12_enter_56 : decode cX12_enter 56 = .ok (.goto (-24), 3) := by decide +kernel
theorem dX12_enter_59 : decode cX12_enter 59 = .ok (.aload_n 0, 1) := by decide +kernel
theorem dX12_enter_60 : decode cX12_enter 60 = .ok (.dup, 1) := by decide +kernel
theorem dX12_enter_61 : decode cX12_enter 61 = .ok (.getfield 254, 3) := by decide +kernel
theorem dX12_enter_64 : decode cX12_enter 64 = .ok (.iconst 1, 1) := by decide +kernel
theorem dX12_enter_65 : decode cX12_enter 65 = .ok (.iadd, 1) := by decide +kernel
theorem dX12_enter_66 : decode cX12_enter 66 = .ok (.putfield 254, 3) := by decide +kernel
theorem dX12_enter_69 : decode cX12_enter 69 = .ok (.return_, 1) := by decide +kernel
abbrev wcX12_enter : List Cond := .code yX12_enter cX12_enter 3 none :: wsL_law
def lX12_enter_32 : Nat → Nat → Int32 → hs_S → Option (hs_S)
  | 0, _, _, _ => none
  | n + 1, v0, v2, g =>
    if (20 : Int32) ≤ v2 then (
      some g
    ) else (
      if hs_kd g v0 = 10 then
      if ¬ (hs_R g v0 45) = 0 then
      if hs_kd g ((hs_R g v0 45) - 1) = 100 then
      if hs_in (((20 : Int32) * (hs_I g v0 40)) + v2) (hs_ln g ((hs_R g v0 45) - 1)) = true then
      hs_bv (some (hs_wI g ((hs_R g v0 45) - 1) (((20 : Int32) * (hs_I g v0 40)) + v2).toNatClampNeg (0 : Int32))) fun g22 =>
      lX12_enter_32 n v0 (v2 + (1 : Int32)) g22
      else none else none else none else none
    )
theorem lX12_enter_32_s (n : Nat) (v0 : Nat) (v2 : Int32) (g : hs_S) : lX12_enter_32 (n + 1) v0 v2 g =
    if (20 : Int32) ≤ v2 then (
      some g
    ) else (
      if hs_kd g v0 = 10 then
      if ¬ (hs_R g v0 45) = 0 then
      if hs_kd g ((hs_R g v0 45) - 1) = 100 then
      if hs_in (((20 : Int32) * (hs_I g v0 40)) + v2) (hs_ln g ((hs_R g v0 45) - 1)) = true then
      hs_bv (some (hs_wI g ((hs_R g v0 45) - 1) (((20 : Int32) * (hs_I g v0 40)) + v2).toNatClampNeg (0 : Int32))) fun g22 =>
      lX12_enter_32 n v0 (v2 + (1 : Int32)) g22
      else none else none else none else none
    ) := rfl
def fX12_enter (v0 : Nat) (v1 : Int32) (g : hs_S) : Option (hs_S) :=
  if hs_kd g v0 = 10 then
  if ¬ (hs_R g v0 41) = 0 then
  if hs_kd g ((hs_R g v0 41) - 1) = 100 then
  if hs_in (hs_I g v0 40) (hs_ln g ((hs_R g v0 41) - 1)) = true then
  if ¬ (hs_R (hs_wI g ((hs_R g v0 41) - 1) (hs_I g v0 40).toNatClampNeg v1) v0 42) = 0 then
  if hs_kd (hs_wI g ((hs_R g v0 41) - 1) (hs_I g v0 40).toNatClampNeg v1) ((hs_R (hs_wI g ((hs_R g v0 41) - 1) (hs_I g v0 40).toNatClampNeg v1) v0 42) - 1) = 100 then
  if hs_in (hs_I (hs_wI g ((hs_R g v0 41) - 1) (hs_I g v0 40).toNatClampNeg v1) v0 40) (hs_ln (hs_wI g ((hs_R g v0 41) - 1) (hs_I g v0 40).toNatClampNeg v1) ((hs_R (hs_wI g ((hs_R g v0 41) - 1) (hs_I g v0 40).toNatClampNeg v1) v0 42) - 1)) = true then
  hs_bv (some (hs_wI (hs_wI g ((hs_R g v0 41) - 1) (hs_I g v0 40).toNatClampNeg v1) ((hs_R (hs_wI g ((hs_R g v0 41) - 1) (hs_I g v0 40).toNatClampNeg v1) v0 42) - 1) (hs_I (hs_wI g ((hs_R g v0 41) - 1) (hs_I g v0 40).toNatClampNeg v1) v0 40).toNatClampNeg (0 : Int32))) fun g8 =>
  if ¬ (hs_R g8 v0 43) = 0 then
  if hs_kd g8 ((hs_R g8 v0 43) - 1) = 100 then
  if hs_in (hs_I g8 v0 40) (hs_ln g8 ((hs_R g8 v0 43) - 1)) = true then
  hs_bv (lX12_enter_32 hs_N v0 (0 : Int32) (hs_wI g8 ((hs_R g8 v0 43) - 1) (hs_I g8 v0 40).toNatClampNeg (0 : Int32))) fun g28 =>
  if hs_kd g28 v0 = 10 then
  some (hs_wI g28 v0 40 ((hs_I g28 v0 40) + (1 : Int32)))
  else none else none else none else none else none else none else none else none else none else none else none
abbrev rmX12_enter : Room := { frames := 0, cells := 0, slots := 0, locals := 0 }
set_option maxHeartbeats 4000000 in
set_option maxRecDepth 100000 in
theorem wX12_enter_32 {p : Program} {l : Launch} {e : Env} {s : State} {m : MethodId} {args : Array Value} {below : List Frame} {meth : Method} {c : Code} {B : Nat} {D : va_G} {E : Nat → ClassId} (hX : hs_cx cX12_enter none 3 RX12 wcX12_enter p s m args meth c D E) {Q : State → Prop} {o : hs_S} {v0 : Nat} (hex0 : ∀ (H : Heap) (locs : List Loc) (ls : Array Slot), hs_P B D E (o) H → hs_Sx B s.heap H locs → lv_has ls 3 [(0, .ref (B + v0))] → W p l e rmX12_enter s m args below meth c H locs 0 0 Q (F0 m 59 ls [])) : ∀ (n : Nat) (v2 : Int32) (g : hs_S), lX12_enter_32 n v0 v2 g = some o → ∀ (H : Heap) (locs : List Loc) (ls : Array Slot), hs_P B D E g H → hs_Sx B s.heap H locs → lv_has ls 3 [(0, .ref (B + v0)), (2, .int v2)] → W p l e rmX12_enter s m args below meth c H locs 0 0 Q (F0 m 32 ls []) := by
  obtain ⟨hx, hb, hr, hml, hown, hts, hlocks, hK⟩ := id hX
  intro n
  induction n with
  | zero =>
    intro v2 g hf
    cases hf
  | succ n ih =>
    intro v2 g hf H locs ls hP hS hl
    replace hf := (lX12_enter_32_s n v0 v2 g).symm.trans hf
    refine lv_iload_n hx hb dX12_enter_32 rfl (lv_at hl 1 rfl) ?_
    refine lv_bipush (v := 20) hx hb dX12_enter_33 (by decide) ?_
    refine lv_icmp_ge (tgt := 59) hx hb dX12_enter_35 (by decide) (fun hc => ?_) (fun hc => ?_)
    · replace hf := hs_t hf hc
      obtain rfl := Option.some.inj hf
      exact hex0 _ _ _ hP hS (lv_sub hl [0] rfl)
    · replace hf := hs_f hf hc
      refine lv_aload_n hx hb dX12_enter_38 rfl (lv_at hl 0 rfl) ?_
      obtain ⟨h18, hf⟩ := hs_ck hf
      obtain ⟨h19, hf⟩ := hs_ck hf
      refine hs_getr (C := RX12) (T := TX12) (N := 48) hx hb hts (fun w h => List.mem_cons_of_mem _ (inlX12 w h)) hown hK.1 hP h18 (by decide) rfl 45 (by decide) (hts _ (List.mem_cons_of_mem _ wq156)) (fun _ h => h) rfl h19 dX12_enter_39 ?_
      refine lv_bipush (v := 20) hx hb dX12_enter_42 (by decide) ?_
      refine lv_aload_n hx hb dX12_enter_44 rfl (lv_at hl 0 rfl) ?_
      refine hs_geti (C := RX12) (T := TX12) (N := 48) hx hb hts (fun w h => List.mem_cons_of_mem _ (inlX12 w h)) hown hK.1 hP h18 (by decide) rfl 40 (by decide) (hts _ (List.mem_cons_of_mem _ wq859)) (fun _ h => h) rfl dX12_enter_45 ?_
      refine lv_imul hx hb dX12_enter_48 ?_
      refine lv_iload_n hx hb dX12_enter_49 rfl (lv_at hl 1 rfl) ?_
      refine lv_iadd hx hb dX12_enter_50 ?_
      refine lv_iconst (v := 0) hx hb dX12_enter_51 (by decide) ?_
      obtain ⟨h20, hf⟩ := hs_ck hf
      obtain ⟨h21, hf⟩ := hs_ck hf
      refine hs_iast hx hb hK.1 hP hS h20 h21 dX12_enter_52 (fun H locs hP hS => ?_)
      obtain ⟨g22, e23, hf⟩ := hs_bv_some hf
      replace e23 := Option.some.inj e23
      rw [e23] at hP
      have h24 : hs_kd g22 v0 = 10 := by rw [← e23]; exact h18
      have h25 : hs_kd g22 ((hs_R g v0 45) - 1) = 100 := by rw [← e23]; exact h20
      have h26 : hs_in (((20 : Int32) * (hs_I g v0 40)) + v2) (hs_ln g22 ((hs_R g v0 45) - 1)) = true := by rw [← e23]; exact h21
      refine lv_iinc (v := (v2 + (1 : Int32))) (lv' := [(2, .int (v2 + (1 : Int32))), (0, .ref (B + v0))]) hx hb dX12_enter_53 hl (k := 1) rfl (by rfl) (by decide) rfl (fun ls hl => ?_)
      refine lv_goto (tgt := 32) hx hb dX12_enter_56 (by decide) ?_
      exact ih _ _ hf _ _ _ hP hS (lv_sub hl [1, 0] rfl)

set_option maxHeartbeats 4000000 in
set_option maxRecDepth 100000 in
theorem ctX12_enter (l : Launch) (B : Nat) (D : va_G) (E : Nat → ClassId) (v0 : Nat) (v1 : Int32) (g : hs_S) (o : hs_S) (hf : fX12_enter v0 v1 g = some o) : Met l yX12_enter wcX12_enter rmX12_enter (hs_Pc B D E g [.ref (B + v0), .int v1]) (hs_Qv B D E o) (0) (0) (hs_F B) := by
  refine Met.ofW (cc := cX12_enter) (maxL := 3) (ret := none) (by decide) rfl ?_
  intro p e s m args below meth c s₁ Bd hml hv
  obtain ⟨rfl, hP, hK⟩ := hv
  have hx := Bd.exec
  have hb := Bd.bytes
  have hr := Bd.returns
  have hts := atoms_spec (ws := wcX12_enter) Bd.pre
  have hown : s.vm.findClass RX12 = some m.cls := findClass_of_methodNamed Bd.named
  have hlocks := Bd.notSynchronized
  have hS : hs_Sx B s.heap s.heap [] := va_S.rf
  have hX : hs_cx cX12_enter none 3 RX12 wcX12_enter p s m (List.toArray [.ref (B + v0), .int v1]) meth c D E := ⟨hx, hb, hr, hml, hown, hts, hlocks, hK⟩
  have hl := lv_entry ([.ref (B + v0), .int v1]) (n := 3) (Nat.le_of_ble_eq_true rfl)
  rw [lg_entry_eq]
  generalize (lg_sl ([.ref (B + v0), .int v1]) ++ List.replicate (3 - (lg_sl ([.ref (B + v0), .int v1])).length) Slot.unset).toArray = ls at hl ⊢
  have hl : lv_has ls 3 [(0, .ref (B + v0)), (1, .int v1)] := hl
  have hP : hs_P B D E g s.heap := hP
  unfold fX12_enter at hf
  refine lv_aload_n hx hb dX12_enter_0 rfl (lv_at hl 0 rfl) ?_
  obtain ⟨h1, hf⟩ := hs_ck hf
  obtain ⟨h2, hf⟩ := hs_ck hf
  refine hs_getr (C := RX12) (T := TX12) (N := 48) hx hb hts (fun w h => List.mem_cons_of_mem _ (inlX12 w h)) hown hK.1 hP h1 (by decide) rfl 41 (by decide) (hts _ (List.mem_cons_of_mem _ wq152)) (fun _ h => h) rfl h2 dX12_enter_1 ?_
  refine lv_aload_n hx hb dX12_enter_4 rfl (lv_at hl 0 rfl) ?_
  refine hs_geti (C := RX12) (T := TX12) (N := 48) hx hb hts (fun w h => List.mem_cons_of_mem _ (inlX12 w h)) hown hK.1 hP h1 (by decide) rfl 40 (by decide) (hts _ (List.mem_cons_of_mem _ wq859)) (fun _ h => h) rfl dX12_enter_5 ?_
  refine lv_iload_n hx hb dX12_enter_8 rfl (lv_at hl 1 rfl) ?_
  obtain ⟨h3, hf⟩ := hs_ck hf
  obtain ⟨h4, hf⟩ := hs_ck hf
  refine hs_iast hx hb hK.1 hP hS h3 h4 dX12_enter_9 (fun H locs hP hS => ?_)
  refine lv_aload_n hx hb dX12_enter_10 rfl (lv_at hl 0 rfl) ?_
  obtain ⟨h5, hf⟩ := hs_ck hf
  refine hs_getr (C := RX12) (T := TX12) (N := 48) hx hb hts (fun w h => List.mem_cons_of_mem _ (inlX12 w h)) hown hK.1 hP h1 (by decide) rfl 42 (by decide) (hts _ (List.mem_cons_of_mem _ wq153)) (fun _ h => h) rfl h5 dX12_enter_11 ?_
  refine lv_aload_n hx hb dX12_enter_14 rfl (lv_at hl 0 rfl) ?_
  refine hs_geti (C := RX12) (T := TX12) (N := 48) hx hb hts (fun w h => List.mem_cons_of_mem _ (inlX12 w h)) hown hK.1 hP h1 (by decide) rfl 40 (by decide) (hts _ (List.mem_cons_of_mem _ wq859)) (fun _ h => h) rfl dX12_enter_15 ?_
  refine lv_iconst (v := 0) hx hb dX12_enter_18 (by decide) ?_
  obtain ⟨h6, hf⟩ := hs_ck hf
  obtain ⟨h7, hf⟩ := hs_ck hf
  refine hs_iast hx hb hK.1 hP hS h6 h7 dX12_enter_19 (fun H locs hP hS => ?_)
  obtain ⟨g8, e9, hf⟩ := hs_bv_some hf
  replace e9 := Option.some.inj e9
  rw [e9] at hP
  have h10 : hs_kd g8 v0 = 10 := by rw [← e9]; exact h1
  have h11 : hs_kd g8 ((hs_R g v0 41) - 1) = 100 := by rw [← e9]; exact h3
  have h12 : hs_in (hs_I g v0 40) (hs_ln g8 ((hs_R g v0 41) - 1)) = true := by rw [← e9]; exact h4
  have h13 : hs_kd g8 ((hs_R (hs_wI g ((hs_R g v0 41) - 1) (hs_I g v0 40).toNatClampNeg v1) v0 42) - 1) = 100 := by rw [← e9]; exact h6
  have h14 : hs_in (hs_I (hs_wI g ((hs_R g v0 41) - 1) (hs_I g v0 40).toNatClampNeg v1) v0 40) (hs_ln g8 ((hs_R (hs_wI g ((hs_R g v0 41) - 1) (hs_I g v0 40).toNatClampNeg v1) v0 42) - 1)) = true := by rw [← e9]; exact h7
  refine lv_aload_n hx hb dX12_enter_20 rfl (lv_at hl 0 rfl) ?_
  obtain ⟨h15, hf⟩ := hs_ck hf
  refine hs_getr (C := RX12) (T := TX12) (N := 48) hx hb hts (fun w h => List.mem_cons_of_mem _ (inlX12 w h)) hown hK.1 hP h10 (by decide) rfl 43 (by decide) (hts _ (List.mem_cons_of_mem _ wq154)) (fun _ h => h) rfl h15 dX12_enter_21 ?_
  refine lv_aload_n hx hb dX12_enter_24 rfl (lv_at hl 0 rfl) ?_
  refine hs_geti (C := RX12) (T := TX12) (N := 48) hx hb hts (fun w h => List.mem_cons_of_mem _ (inlX12 w h)) hown hK.1 hP h10 (by decide) rfl 40 (by decide) (hts _ (List.mem_cons_of_mem _ wq859)) (fun _ h => h) rfl dX12_enter_25 ?_
  refine lv_iconst (v := 0) hx hb dX12_enter_28 (by decide) ?_
  obtain ⟨h16, hf⟩ := hs_ck hf
  obtain ⟨h17, hf⟩ := hs_ck hf
  refine hs_iast hx hb hK.1 hP hS h16 h17 dX12_enter_29 (fun H locs hP hS => ?_)
  refine lv_iconst (v := 0) hx hb dX12_enter_30 (by decide) ?_
  refine lv_istore_n (lv' := [(2, .int (0 : Int32)), (0, .ref (B + v0)), (1, .int v1)]) hx hb dX12_enter_31 rfl hl (by decide) rfl (fun ls hl => ?_)
  obtain ⟨g28, h29, hf⟩ := hs_bv_some hf
  refine wX12_enter_32 hX (fun H locs ls hP hS hl => ?_) hs_N _ _ h29 _ _ _ hP hS (lv_sub hl [1, 0] rfl)
  refine lv_aload_n hx hb dX12_enter_59 rfl (lv_at hl 0 rfl) ?_
  refine lv_dup hx hb dX12_enter_60 rfl ?_
  obtain ⟨h30, hf⟩ := hs_ck hf
  refine hs_geti (C := RX12) (T := TX12) (N := 48) hx hb hts (fun w h => List.mem_cons_of_mem _ (inlX12 w h)) hown hK.1 hP h30 (by decide) rfl 40 (by decide) (hts _ (List.mem_cons_of_mem _ wq859)) (fun _ h => h) rfl dX12_enter_61 ?_
  refine lv_iconst (v := 1) hx hb dX12_enter_64 (by decide) ?_
  refine lv_iadd hx hb dX12_enter_65 ?_
  refine hs_puti (C := RX12) (T := TX12) (N := 48) hx hb hts (fun w h => List.mem_cons_of_mem _ (inlX12 w h)) tyX12 tyX12_ok nmX12 hown hK.1 hP hS h30 (by decide) rfl 40 (by decide) (hts _ (List.mem_cons_of_mem _ wq859)) (fun _ h => h) (Or.inl rfl) rfl rfl rfl dX12_enter_66 (fun H locs hP hS => ?_)
  exact hs_vret hx hb hr hlocks hK hP hS hf dX12_enter_69

theorem dX12_codeAt_0 : decode cX12_codeAt 0 = .ok (.aload_n 0, 1) := by decide +kernel
theorem dX12_codeAt_1 : decode cX12_codeAt 1 = .ok (.getfield 69, 3) := by decide +kernel
theorem dX12_codeAt_4 : decode cX12_codeAt 4 = .ok (.sipush 4001, 3) := by decide +kernel
theorem dX12_codeAt_7 : decode cX12_codeAt 7 = .ok (.aload_n 0, 1) := by decide +kernel
theorem dX12_codeAt_8 : decode cX12_codeAt 8 = .ok (.getfield 102, 3) := by decide +kernel
theorem dX12_codeAt_11 : decode cX12_codeAt 11 = .ok (.aload_n 0, 1) := by decide +kernel
theorem dX12_codeAt_12 : decode cX12_codeAt 12 = .ok (.getfield 254, 3) := by decide +kernel
theorem dX12_codeAt_15 : decode cX12_codeAt 15 = .ok (.iconst 1, 1) := by decide +kernel
theorem dX12_codeAt_16 : decode cX12_codeAt 16 = .ok (.isub, 1) := by decide +kernel
theorem dX12_codeAt_17 : decode cX12_codeAt 17 = .ok (.iaload, 1) := by decide +kernel
theorem dX12_codeAt_18 : decode cX12_codeAt 18 = .ok (.imul, 1) := by decide +kernel
theorem dX12_codeAt_19 : decode cX12_codeAt 19 = .ok (.aload_n 0, 1) := by decide +kernel
theorem dX12_codeAt_20 : decode cX12_codeAt 20 = .ok (.getfield 105, 3) := by decide +kernel
theorem dX12_codeAt_23 : decode cX12_codeAt 23 = .ok (.aload_n 0, 1) := by decide +kernel
theorem dX12_codeAt_24 : decode cX12_codeAt 24 = .ok (.getfield 254, 3) := by decide +kernel
theorem dX12_codeAt_27 : decode cX12_codeAt 27 = .ok (.iconst 1, 1) := by decide +kernel
theorem dX12_codeAt_28 : decode cX12_codeAt 28 = .ok (.isub, 1) := by decide +kernel
theorem dX12_codeAt_29 : decode cX12_codeAt 29 = .ok (.iaload, 1) := by decide +kernel
theorem dX12_codeAt_30 : decode cX12_codeAt 30 = .ok (.iadd, 1) := by decide +kernel
theorem dX12_codeAt_31 : decode cX12_codeAt 31 = .ok (.iload_n 1, 1) := by decide +kernel
theorem dX12_codeAt_32 : decode cX12_codeAt 32 = .ok (.iadd, 1) := by decide +kernel
theorem dX12_codeAt_33 : decode cX12_codeAt 33 = .ok (.iaload, 1) := by decide +kernel
theorem dX12_codeAt_34 : decode cX12_codeAt 34 = .ok (.ireturn, 1) := by decide +kernel
abbrev wcX12_codeAt : List Cond := .code yX12_codeAt cX12_codeAt 2 (some .int) :: wsL_law
def fX12_codeAt (v0 : Nat) (v1 : Int32) (g : hs_S) : Option (Int32 × hs_S) :=
  if hs_kd g v0 = 10 then
  if ¬ (hs_R g v0 23) = 0 then
  if ¬ (hs_R g v0 41) = 0 then
  if hs_kd g ((hs_R g v0 41) - 1) = 100 then
  if hs_in ((hs_I g v0 40) - (1 : Int32)) (hs_ln g ((hs_R g v0 41) - 1)) = true then
  if ¬ (hs_R g v0 42) = 0 then
  if hs_kd g ((hs_R g v0 42) - 1) = 100 then
  if hs_in ((hs_I g v0 40) - (1 : Int32)) (hs_ln g ((hs_R g v0 42) - 1)) = true then
  if hs_kd g ((hs_R g v0 23) - 1) = 100 then
  if hs_in ((((4001 : Int32) * (hs_I g ((hs_R g v0 41) - 1) ((hs_I g v0 40) - (1 : Int32)).toNatClampNeg)) + (hs_I g ((hs_R g v0 42) - 1) ((hs_I g v0 40) - (1 : Int32)).toNatClampNeg)) + v1) (hs_ln g ((hs_R g v0 23) - 1)) = true then
  some ((hs_I g ((hs_R g v0 23) - 1) ((((4001 : Int32) * (hs_I g ((hs_R g v0 41) - 1) ((hs_I g v0 40) - (1 : Int32)).toNatClampNeg)) + (hs_I g ((hs_R g v0 42) - 1) ((hs_I g v0 40) - (1 : Int32)).toNatClampNeg)) + v1).toNatClampNeg), g)
  else none else none else none else none else none else none else none else none else none else none
abbrev rmX12_codeAt : Room := { frames := 0, cells := 0, slots := 0, locals := 0 }
set_option maxHeartbeats 4000000 in
set_option maxRecDepth 100000 in
theorem ctX12_codeAt (l : Launch) (B : Nat) (D : va_G) (E : Nat → ClassId) (v0 : Nat) (v1 : Int32) (g : hs_S) (o : Int32 × hs_S) (hf : fX12_codeAt v0 v1 g = some o) : Met l yX12_codeAt wcX12_codeAt rmX12_codeAt (hs_Pc B D E g [.ref (B + v0), .int v1]) (hs_Qi B D E o) (0) (0) (hs_F B) := by
  refine Met.ofW (cc := cX12_codeAt) (maxL := 2) (ret := (some .int)) (by decide) rfl ?_
  intro p e s m args below meth c s₁ Bd hml hv
  obtain ⟨rfl, hP, hK⟩ := hv
  have hx := Bd.exec
  have hb := Bd.bytes
  have hr := Bd.returns
  have hts := atoms_spec (ws := wcX12_codeAt) Bd.pre
  have hown : s.vm.findClass RX12 = some m.cls := findClass_of_methodNamed Bd.named
  have hlocks := Bd.notSynchronized
  have hS : hs_Sx B s.heap s.heap [] := va_S.rf
  have hX : hs_cx cX12_codeAt (some .int) 2 RX12 wcX12_codeAt p s m (List.toArray [.ref (B + v0), .int v1]) meth c D E := ⟨hx, hb, hr, hml, hown, hts, hlocks, hK⟩
  have hl := lv_entry ([.ref (B + v0), .int v1]) (n := 2) (Nat.le_of_ble_eq_true rfl)
  rw [lg_entry_eq]
  generalize (lg_sl ([.ref (B + v0), .int v1]) ++ List.replicate (2 - (lg_sl ([.ref (B + v0), .int v1])).length) Slot.unset).toArray = ls at hl ⊢
  have hl : lv_has ls 2 [(0, .ref (B + v0)), (1, .int v1)] := hl
  have hP : hs_P B D E g s.heap := hP
  unfold fX12_codeAt at hf
  refine lv_aload_n hx hb dX12_codeAt_0 rfl (lv_at hl 0 rfl) ?_
  obtain ⟨h1, hf⟩ := hs_ck hf
  obtain ⟨h2, hf⟩ := hs_ck hf
  refine hs_getr (C := RX12) (T := TX12) (N := 48) hx hb hts (fun w h => List.mem_cons_of_mem _ (inlX12 w h)) hown hK.1 hP h1 (by decide) rfl 23 (by decide) (hts _ (List.mem_cons_of_mem _ wq141)) (fun _ h => h) rfl h2 dX12_codeAt_1 ?_
  refine lv_sipush (v := 4001) hx hb dX12_codeAt_4 (by decide) ?_
  refine lv_aload_n hx hb dX12_codeAt_7 rfl (lv_at hl 0 rfl) ?_
  obtain ⟨h3, hf⟩ := hs_ck hf
  refine hs_getr (C := RX12) (T := TX12) (N := 48) hx hb hts (fun w h => List.mem_cons_of_mem _ (inlX12 w h)) hown hK.1 hP h1 (by decide) rfl 41 (by decide) (hts _ (List.mem_cons_of_mem _ wq152)) (fun _ h => h) rfl h3 dX12_codeAt_8 ?_
  refine lv_aload_n hx hb dX12_codeAt_11 rfl (lv_at hl 0 rfl) ?_
  refine hs_geti (C := RX12) (T := TX12) (N := 48) hx hb hts (fun w h => List.mem_cons_of_mem _ (inlX12 w h)) hown hK.1 hP h1 (by decide) rfl 40 (by decide) (hts _ (List.mem_cons_of_mem _ wq859)) (fun _ h => h) rfl dX12_codeAt_12 ?_
  refine lv_iconst (v := 1) hx hb dX12_codeAt_15 (by decide) ?_
  refine lv_isub hx hb dX12_codeAt_16 ?_
  obtain ⟨h4, hf⟩ := hs_ck hf
  obtain ⟨h5, hf⟩ := hs_ck hf
  refine hs_iald hx hb hK.1 hP h4 h5 dX12_codeAt_17 ?_
  refine lv_imul hx hb dX12_codeAt_18 ?_
  refine lv_aload_n hx hb dX12_codeAt_19 rfl (lv_at hl 0 rfl) ?_
  obtain ⟨h6, hf⟩ := hs_ck hf
  refine hs_getr (C := RX12) (T := TX12) (N := 48) hx hb hts (fun w h => List.mem_cons_of_mem _ (inlX12 w h)) hown hK.1 hP h1 (by decide) rfl 42 (by decide) (hts _ (List.mem_cons_of_mem _ wq153)) (fun _ h => h) rfl h6 dX12_codeAt_20 ?_
  refine lv_aload_n hx hb dX12_codeAt_23 rfl (lv_at hl 0 rfl) ?_
  refine hs_geti (C := RX12) (T := TX12) (N := 48) hx hb hts (fun w h => List.mem_cons_of_mem _ (inlX12 w h)) hown hK.1 hP h1 (by decide) rfl 40 (by decide) (hts _ (List.mem_cons_of_mem _ wq859)) (fun _ h => h) rfl dX12_codeAt_24 ?_
  refine lv_iconst (v := 1) hx hb dX12_codeAt_27 (by decide) ?_
  refine lv_isub hx hb dX12_codeAt_28 ?_
  obtain ⟨h7, hf⟩ := hs_ck hf
  obtain ⟨h8, hf⟩ := hs_ck hf
  refine hs_iald hx hb hK.1 hP h7 h8 dX12_codeAt_29 ?_
  refine lv_iadd hx hb dX12_codeAt_30 ?_
  refine lv_iload_n hx hb dX12_codeAt_31 rfl (lv_at hl 1 rfl) ?_
  refine lv_iadd hx hb dX12_codeAt_32 ?_
  obtain ⟨h9, hf⟩ := hs_ck hf
  obtain ⟨h10, hf⟩ := hs_ck hf
  refine hs_iald hx hb hK.1 hP h9 h10 dX12_codeAt_33 ?_
  exact hs_iret hx hb hr hlocks rfl hK hP hS hf dX12_codeAt_34

theorem dX12_pays_0 : decode cX12_pays 0 = .ok (.iload_n 1, 1) := by decide +kernel
theorem dX12_pays_1 : decode cX12_pays 1 = .ok (.aload_n 0, 1) := by decide +kernel
theorem dX12_pays_2 : decode cX12_pays 2 = .ok (.getfield 245, 3) := by decide +kernel
theorem dX12_pays_5 : decode cX12_pays 5 = .ok (.if_icmp .le 10, 3) := by decide +kernel
theorem dX12_pays_8 : decode cX12_pays 8 = .ok (.aload_n 0, 1) := by decide +kernel
theorem dX12_pays_9 : decode cX12_pays 9 = .ok (.iconst 1, 1) := by decide +kernel
theorem dX12_pays_10 : decode cX12_pays 10 = .ok (.putfield 248, 3) := by decide +kernel
theorem dX12_pays_13 : decode cX12_pays 13 = .ok (.iconst 0, 1) := by decide +kernel
theorem dX12_pays_14 : decode cX12_pays 14 = .ok (.ireturn, 1) := by decide +kernel
theorem dX12_pays_15 : decode cX12_pays 15 = .ok (.aload_n 0, 1) := by decide +kernel
theorem dX12_pays_16 : decode cX12_pays 16 = .ok (.dup, 1) := by decide +kernel
theorem dX12_pays_17 : decode cX12_pays 17 = .ok (.getfield 245, 3) := by decide +kernel
theorem dX12_pays_20 : decode cX12_pays 20 = .ok (.iload_n 1, 1) := by decide +kernel
theorem dX12_pays_21 : decode cX12_pays 21 = .ok (.isub, 1) := by decide +kernel
theorem dX12_pays_22 : decode cX12_pays 22 = .ok (.putfield 245, 3) := by decide +kernel
theorem dX12_pays_25 : decode cX12_pays 25 = .ok (.aload_n 0, 1) := by decide +kernel
theorem dX12_pays_26 : decode cX12_pays 26 = .ok (.dup, 1) := by decide +kernel
theorem dX12_pays_27 : decode cX12_pays 27 = .ok (.getfield 251, 3) := by decide +kernel
theorem dX12_pays_30 : decode cX12_pays 30 = .ok (.iload_n 1, 1) := by decide +kernel
theorem dX12_pays_31 : decode cX12_pays 31 = .ok (.iadd, 1) := by decide +kernel
theorem dX12_pays_32 : decode cX12_pays 32 = .ok (.putfield 251, 3) := by decide +kernel
theorem dX12_pays_35 : decode cX12_pays 35 = .ok (.iconst 1, 1) := by decide +kernel
theorem dX12_pays_36 : decode cX12_pays 36 = .ok (.ireturn, 1) := by decide +kernel
abbrev wcX12_pays : List Cond := .code yX12_pays cX12_pays 2 (some .boolean) :: wsL_law
def fX12_pays (v0 : Nat) (v1 : Int32) (g : hs_S) : Option (Int32 × hs_S) :=
  if hs_kd g v0 = 10 then
  if v1 ≤ (hs_I g v0 39) then (
    hs_bv (some (hs_wI (hs_wI g v0 39 ((hs_I g v0 39) - v1)) v0 37 ((hs_I (hs_wI g v0 39 ((hs_I g v0 39) - v1)) v0 37) + v1))) fun g2 =>
    some ((1 : Int32), g2)
  ) else (
    some ((0 : Int32), (hs_wI g v0 46 (1 : Int32)))
  )
  else none
abbrev rmX12_pays : Room := { frames := 0, cells := 0, slots := 0, locals := 0 }
set_option maxHeartbeats 4000000 in
set_option maxRecDepth 100000 in
theorem ctX12_pays (l : Launch) (B : Nat) (D : va_G) (E : Nat → ClassId) (v0 : Nat) (v1 : Int32) (g : hs_S) (o : Int32 × hs_S) (hf : fX12_pays v0 v1 g = some o) : Met l yX12_pays wcX12_pays rmX12_pays (hs_Pc B D E g [.ref (B + v0), .int v1]) (hs_Qi B D E o) (0) (0) (hs_F B) := by
  refine Met.ofW (cc := cX12_pays) (maxL := 2) (ret := (some .boolean)) (by decide) rfl ?_
  intro p e s m args below meth c s₁ Bd hml hv
  obtain ⟨rfl, hP, hK⟩ := hv
  have hx := Bd.exec
  have hb := Bd.bytes
  have hr := Bd.returns
  have hts := atoms_spec (ws := wcX12_pays) Bd.pre
  have hown : s.vm.findClass RX12 = some m.cls := findClass_of_methodNamed Bd.named
  have hlocks := Bd.notSynchronized
  have hS : hs_Sx B s.heap s.heap [] := va_S.rf
  have hX : hs_cx cX12_pays (some .boolean) 2 RX12 wcX12_pays p s m (List.toArray [.ref (B + v0), .int v1]) meth c D E := ⟨hx, hb, hr, hml, hown, hts, hlocks, hK⟩
  have hl := lv_entry ([.ref (B + v0), .int v1]) (n := 2) (Nat.le_of_ble_eq_true rfl)
  rw [lg_entry_eq]
  generalize (lg_sl ([.ref (B + v0), .int v1]) ++ List.replicate (2 - (lg_sl ([.ref (B + v0), .int v1])).length) Slot.unset).toArray = ls at hl ⊢
  have hl : lv_has ls 2 [(0, .ref (B + v0)), (1, .int v1)] := hl
  have hP : hs_P B D E g s.heap := hP
  unfold fX12_pays at hf
  refine lv_iload_n hx hb dX12_pays_0 rfl (lv_at hl 1 rfl) ?_
  refine lv_aload_n hx hb dX12_pays_1 rfl (lv_at hl 0 rfl) ?_
  obtain ⟨h1, hf⟩ := hs_ck hf
  refine hs_geti (C := RX12) (T := TX12) (N := 48) hx hb hts (fun w h => List.mem_cons_of_mem _ (inlX12 w h)) hown hK.1 hP h1 (by decide) rfl 39 (by decide) (hts _ (List.mem_cons_of_mem _ wq858)) (fun _ h => h) rfl dX12_pays_2 ?_
  refine lv_icmp_le (tgt := 15) hx hb dX12_pays_5 (by decide) (fun hc => ?_) (fun hc => ?_)
  · replace hf := hs_t hf hc
    refine lv_aload_n hx hb dX12_pays_15 rfl (lv_at hl 0 rfl) ?_
    refine lv_dup hx hb dX12_pays_16 rfl ?_
    refine hs_geti (C := RX12) (T := TX12) (N := 48) hx hb hts (fun w h => List.mem_cons_of_mem _ (inlX12 w h)) hown hK.1 hP h1 (by decide) rfl 39 (by decide) (hts _ (List.mem_cons_of_mem _ wq858)) (fun _ h => h) rfl dX12_pays_17 ?_
    refine lv_iload_n hx hb dX12_pays_20 rfl (lv_at hl 1 rfl) ?_
    refine lv_isub hx hb dX12_pays_21 ?_
    refine hs_puti (C := RX12) (T := TX12) (N := 48) hx hb hts (fun w h => List.mem_cons_of_mem _ (inlX12 w h)) tyX12 tyX12_ok nmX12 hown hK.1 hP hS h1 (by decide) rfl 39 (by decide) (hts _ (List.mem_cons_of_mem _ wq858)) (fun _ h => h) (Or.inl rfl) rfl rfl rfl dX12_pays_22 (fun H locs hP hS => ?_)
    refine lv_aload_n hx hb dX12_pays_25 rfl (lv_at hl 0 rfl) ?_
    refine lv_dup hx hb dX12_pays_26 rfl ?_
    refine hs_geti (C := RX12) (T := TX12) (N := 48) hx hb hts (fun w h => List.mem_cons_of_mem _ (inlX12 w h)) hown hK.1 hP h1 (by decide) rfl 37 (by decide) (hts _ (List.mem_cons_of_mem _ wq856)) (fun _ h => h) rfl dX12_pays_27 ?_
    refine lv_iload_n hx hb dX12_pays_30 rfl (lv_at hl 1 rfl) ?_
    refine lv_iadd hx hb dX12_pays_31 ?_
    refine hs_puti (C := RX12) (T := TX12) (N := 48) hx hb hts (fun w h => List.mem_cons_of_mem _ (inlX12 w h)) tyX12 tyX12_ok nmX12 hown hK.1 hP hS h1 (by decide) rfl 37 (by decide) (hts _ (List.mem_cons_of_mem _ wq856)) (fun _ h => h) (Or.inl rfl) rfl rfl rfl dX12_pays_32 (fun H locs hP hS => ?_)
    obtain ⟨g2, e3, hf⟩ := hs_bv_some hf
    replace e3 := Option.some.inj e3
    rw [e3] at hP
    have h4 : hs_kd g2 v0 = 10 := by rw [← e3]; exact h1
    refine lv_iconst (v := 1) hx hb dX12_pays_35 (by decide) ?_
    exact hs_iret hx hb hr hlocks (hs_01_nar (rfl)) hK hP hS hf dX12_pays_36
  · replace hf := hs_f hf hc
    refine lv_aload_n hx hb dX12_pays_8 rfl (lv_at hl 0 rfl) ?_
    refine lv_iconst (v := 1) hx hb dX12_pays_9 (by decide) ?_
    refine hs_puti (C := RX12) (T := TX12) (N := 48) hx hb hts (fun w h => List.mem_cons_of_mem _ (inlX12 w h)) tyX12 tyX12_ok nmX12 hown hK.1 hP hS h1 (by decide) rfl 46 (by decide) (hts _ (List.mem_cons_of_mem _ wq860)) (fun _ h => h) (Or.inl rfl) (hs_01_nar (rfl)) (hs_01_fit (rfl)) rfl dX12_pays_10 (fun H locs hP hS => ?_)
    refine lv_iconst (v := 0) hx hb dX12_pays_13 (by decide) ?_
    exact hs_iret hx hb hr hlocks (hs_01_nar (rfl)) hK hP hS hf dX12_pays_14

theorem dX12_top_0 : decode cX12_top 0 = .ok (.aload_n 0, 1) := by decide +kernel
theorem dX12_top_1 : decode cX12_top 1 = .ok (.getfield 111, 3) := by decide +kernel
theorem dX12_top_4 : decode cX12_top 4 = .ok (.bipush 24, 2) := by decide +kernel
theorem dX12_top_6 : decode cX12_top 6 = .ok (.aload_n 0, 1) := by decide +kernel
theorem dX12_top_7 : decode cX12_top 7 = .ok (.getfield 254, 3) := by decide +kernel
theorem dX12_top_10 : decode cX12_top 10 = .ok (.iconst 1, 1) := by decide +kernel
theorem dX12_top_11 : decode cX12_top 11 = .ok (.isub, 1) := by decide +kernel
theorem dX12_top_12 : decode cX12_top 12 = .ok (.imul, 1) := by decide +kernel
theorem dX12_top_13 : decode cX12_top 13 = .ok (.aload_n 0, 1) := by decide +kernel
theorem dX12_top_14 : decode cX12_top 14 = .ok (.getfield 108, 3) := by decide +kernel
theorem dX12_top_17 : decode cX12_top 17 = .ok (.aload_n 0, 1) := by decide +kernel
theorem dX12_top_18 : decode cX12_top 18 = .ok (.getfield 254, 3) := by decide +kernel
theorem dX12_top_21 : decode cX12_top 21 = .ok (.iconst 1, 1) := by decide +kernel
theorem dX12_top_22 : decode cX12_top 22 = .ok (.isub, 1) := by decide +kernel
theorem dX12_top_23 : decode cX12_top 23 = .ok (.iaload, 1) := by decide +kernel
theorem dX12_top_24 : decode cX12_top 24 = .ok (.iadd, 1) := by decide +kernel
theorem dX12_top_25 : decode cX12_top 25 = .ok (.iconst 1, 1) := by decide +kernel
theorem dX12_top_26 : decode cX12_top 26 = .ok (.isub, 1) := by decide +kernel
theorem dX12_top_27 : decode cX12_top 27 = .ok (.iaload, 1) := by decide +kernel
theorem dX12_top_28 : decode cX12_top 28 = .ok (.ireturn, 1) := by decide +kernel
abbrev wcX12_top : List Cond := .code yX12_top cX12_top 1 (some .int) :: wsL_law
def fX12_top (v0 : Nat) (g : hs_S) : Option (Int32 × hs_S) :=
  if hs_kd g v0 = 10 then
  if ¬ (hs_R g v0 44) = 0 then
  if ¬ (hs_R g v0 43) = 0 then
  if hs_kd g ((hs_R g v0 43) - 1) = 100 then
  if hs_in ((hs_I g v0 40) - (1 : Int32)) (hs_ln g ((hs_R g v0 43) - 1)) = true then
  if hs_kd g ((hs_R g v0 44) - 1) = 100 then
  if hs_in ((((24 : Int32) * ((hs_I g v0 40) - (1 : Int32))) + (hs_I g ((hs_R g v0 43) - 1) ((hs_I g v0 40) - (1 : Int32)).toNatClampNeg)) - (1 : Int32)) (hs_ln g ((hs_R g v0 44) - 1)) = true then
  some ((hs_I g ((hs_R g v0 44) - 1) ((((24 : Int32) * ((hs_I g v0 40) - (1 : Int32))) + (hs_I g ((hs_R g v0 43) - 1) ((hs_I g v0 40) - (1 : Int32)).toNatClampNeg)) - (1 : Int32)).toNatClampNeg), g)
  else none else none else none else none else none else none else none
abbrev rmX12_top : Room := { frames := 0, cells := 0, slots := 0, locals := 0 }
set_option maxHeartbeats 4000000 in
set_option maxRecDepth 100000 in
theorem ctX12_top (l : Launch) (B : Nat) (D : va_G) (E : Nat → ClassId) (v0 : Nat) (g : hs_S) (o : Int32 × hs_S) (hf : fX12_top v0 g = some o) : Met l yX12_top wcX12_top rmX12_top (hs_Pc B D E g [.ref (B + v0)]) (hs_Qi B D E o) (0) (0) (hs_F B) := by
  refine Met.ofW (cc := cX12_top) (maxL := 1) (ret := (some .int)) (by decide) rfl ?_
  intro p e s m args below meth c s₁ Bd hml hv
  obtain ⟨rfl, hP, hK⟩ := hv
  have hx := Bd.exec
  have hb := Bd.bytes
  have hr := Bd.returns
  have hts := atoms_spec (ws := wcX12_top) Bd.pre
  have hown : s.vm.findClass RX12 = some m.cls := findClass_of_methodNamed Bd.named
  have hlocks := Bd.notSynchronized
  have hS : hs_Sx B s.heap s.heap [] := va_S.rf
  have hX : hs_cx cX12_top (some .int) 1 RX12 wcX12_top p s m (List.toArray [.ref (B + v0)]) meth c D E := ⟨hx, hb, hr, hml, hown, hts, hlocks, hK⟩
  have hl := lv_entry ([.ref (B + v0)]) (n := 1) (Nat.le_of_ble_eq_true rfl)
  rw [lg_entry_eq]
  generalize (lg_sl ([.ref (B + v0)]) ++ List.replicate (1 - (lg_sl ([.ref (B + v0)])).length) Slot.unset).toArray = ls at hl ⊢
  have hl : lv_has ls 1 [(0, .ref (B + v0))] := hl
  have hP : hs_P B D E g s.heap := hP
  unfold fX12_top at hf
  refine lv_aload_n hx hb dX12_top_0 rfl (lv_at hl 0 rfl) ?_
  obtain ⟨h1, hf⟩ := hs_ck hf
  obtain ⟨h2, hf⟩ := hs_ck hf
  refine hs_getr (C := RX12) (T := TX12) (N := 48) hx hb hts (fun w h => List.mem_cons_of_mem _ (inlX12 w h)) hown hK.1 hP h1 (by decide) rfl 44 (by decide) (hts _ (List.mem_cons_of_mem _ wq155)) (fun _ h => h) rfl h2 dX12_top_1 ?_
  refine lv_bipush (v := 24) hx hb dX12_top_4 (by decide) ?_
  refine lv_aload_n hx hb dX12_top_6 rfl (lv_at hl 0 rfl) ?_
  refine hs_geti (C := RX12) (T := TX12) (N := 48) hx hb hts (fun w h => List.mem_cons_of_mem _ (inlX12 w h)) hown hK.1 hP h1 (by decide) rfl 40 (by decide) (hts _ (List.mem_cons_of_mem _ wq859)) (fun _ h => h) rfl dX12_top_7 ?_
  refine lv_iconst (v := 1) hx hb dX12_top_10 (by decide) ?_
  refine lv_isub hx hb dX12_top_11 ?_
  refine lv_imul hx hb dX12_top_12 ?_
  refine lv_aload_n hx hb dX12_top_13 rfl (lv_at hl 0 rfl) ?_
  obtain ⟨h3, hf⟩ := hs_ck hf
  refine hs_getr (C := RX12) (T := TX12) (N := 48) hx hb hts (fun w h => List.mem_cons_of_mem _ (inlX12 w h)) hown hK.1 hP h1 (by decide) rfl 43 (by decide) (hts _ (List.mem_cons_of_mem _ wq154)) (fun _ h => h) rfl h3 dX12_top_14 ?_
  refine lv_aload_n hx hb dX12_top_17 rfl (lv_at hl 0 rfl) ?_
  refine hs_geti (C := RX12) (T := TX12) (N := 48) hx hb hts (fun w h => List.mem_cons_of_mem _ (inlX12 w h)) hown hK.1 hP h1 (by decide) rfl 40 (by decide) (hts _ (List.mem_cons_of_mem _ wq859)) (fun _ h => h) rfl dX12_top_18 ?_
  refine lv_iconst (v := 1) hx hb dX12_top_21 (by decide) ?_
  refine lv_isub hx hb dX12_top_22 ?_
  obtain ⟨h4, hf⟩ := hs_ck hf
  obtain ⟨h5, hf⟩ := hs_ck hf
  refine hs_iald hx hb hK.1 hP h4 h5 dX12_top_23 ?_
  refine lv_iadd hx hb dX12_top_24 ?_
  refine lv_iconst (v := 1) hx hb dX12_top_25 (by decide) ?_
  refine lv_isub hx hb dX12_top_26 ?_
  obtain ⟨h6, hf⟩ := hs_ck hf
  obtain ⟨h7, hf⟩ := hs_ck hf
  refine hs_iald hx hb hK.1 hP h6 h7 dX12_top_27 ?_
  exact hs_iret hx hb hr hlocks rfl hK hP hS hf dX12_top_28

theorem dX12_pop_0 : decode cX12_pop 0 = .ok (.aload_n 0, 1) := by decide +kernel
theorem dX12_pop_1 : decode cX12_pop 1 = .ok (.getfield 254, 3) := by decide +kernel
theorem dX12_pop_4 : decode cX12_pop 4 = .ok (.iconst 1, 1) := by decide +kernel
theorem dX12_pop_5 : decode cX12_pop 5 = .ok (.isub, 1) := by decide +kernel
theorem dX12_pop_6 : decode cX12_pop 6 = .ok (.istore_n 1, 1) := by decide +kernel
theorem dX12_pop_7 : decode cX12_pop 7 = .ok (.aload_n 0, 1) := by decide +kernel
theorem dX12_pop_8 : decode cX12_pop 8 = .ok (.getfield 108, 3) := by decide +kernel
theorem dX12_pop_11 : decode cX12_pop 11 = .ok (.iload_n 1, 1) := by decide +kernel
theorem dX12_pop_12 : decode cX12_pop 12 = .ok (.dup2, 1) := by decide +kernel
theorem dX12_pop_13 : decode cX12_pop 13 = .ok (.iaload, 1) := by decide +kernel
theorem dX12_pop_14 : decode cX12_pop 14 = .ok (.iconst 1, 1) := by decide +kernel
theorem dX12_pop_15 : decode cX12_pop 15 = .ok (.isub, 1) := by decide +kernel
theorem dX12_pop_16 : decode cX12_pop 16 = .ok (.iastore, 1) := by decide +kernel
theorem dX12_pop_17 : decode cX12_pop 17 = .ok (.aload_n 0, 1) := by decide +kernel
theorem dX12_pop_18 : decode cX12_pop 18 = .ok (.getfield 111, 3) := by decide +kernel
theorem dX12_pop_21 : decode cX12_pop 21 = .ok (.bipush 24, 2) := by decide +kernel
theorem dX12_pop_23 : decode cX12_pop 23 = .ok (.iload_n 1, 1) := by decide +kernel
theorem dX12_pop_24 : decode cX12_pop 24 = .ok (.imul, 1) := by decide +kernel
theorem dX12_pop_25 : decode cX12_pop 25 = .ok (.aload_n 0, 1) := by decide +kernel
theorem dX12_pop_26 : decode cX12_pop 26 = .ok (.getfield 108, 3) := by decide +kernel
theorem dX12_pop_29 : decode cX12_pop 29 = .ok (.iload_n 1, 1) := by decide +kernel
theorem dX12_pop_30 : decode cX12_pop 30 = .ok (.iaload, 1) := by decide +kernel
theorem dX12_pop_31 : decode cX12_pop 31 = .ok (.iadd, 1) := by decide +kernel
theorem dX12_pop_32 : decode cX12_pop 32 = .ok (.iaload, 1) := by decide +kernel
theorem dX12_pop_33 : decode cX12_pop 33 = .ok (.ireturn, 1) := by decide +kernel
abbrev wcX12_pop : List Cond := .code yX12_pop cX12_pop 2 (some .int) :: wsL_law
def fX12_pop (v0 : Nat) (g : hs_S) : Option (Int32 × hs_S) :=
  if hs_kd g v0 = 10 then
  if ¬ (hs_R g v0 43) = 0 then
  if hs_kd g ((hs_R g v0 43) - 1) = 100 then
  if hs_in ((hs_I g v0 40) - (1 : Int32)) (hs_ln g ((hs_R g v0 43) - 1)) = true then
  hs_bv (some (hs_wI g ((hs_R g v0 43) - 1) ((hs_I g v0 40) - (1 : Int32)).toNatClampNeg ((hs_I g ((hs_R g v0 43) - 1) ((hs_I g v0 40) - (1 : Int32)).toNatClampNeg) - (1 : Int32)))) fun g5 =>
  if ¬ (hs_R g5 v0 44) = 0 then
  if ¬ (hs_R g5 v0 43) = 0 then
  if hs_kd g5 ((hs_R g5 v0 43) - 1) = 100 then
  if hs_in ((hs_I g v0 40) - (1 : Int32)) (hs_ln g5 ((hs_R g5 v0 43) - 1)) = true then
  if hs_kd g5 ((hs_R g5 v0 44) - 1) = 100 then
  if hs_in (((24 : Int32) * ((hs_I g v0 40) - (1 : Int32))) + (hs_I g5 ((hs_R g5 v0 43) - 1) ((hs_I g v0 40) - (1 : Int32)).toNatClampNeg)) (hs_ln g5 ((hs_R g5 v0 44) - 1)) = true then
  some ((hs_I g5 ((hs_R g5 v0 44) - 1) (((24 : Int32) * ((hs_I g v0 40) - (1 : Int32))) + (hs_I g5 ((hs_R g5 v0 43) - 1) ((hs_I g v0 40) - (1 : Int32)).toNatClampNeg)).toNatClampNeg), g5)
  else none else none else none else none else none else none else none else none else none else none
abbrev rmX12_pop : Room := { frames := 0, cells := 0, slots := 0, locals := 0 }
set_option maxHeartbeats 4000000 in
set_option maxRecDepth 100000 in
theorem ctX12_pop (l : Launch) (B : Nat) (D : va_G) (E : Nat → ClassId) (v0 : Nat) (g : hs_S) (o : Int32 × hs_S) (hf : fX12_pop v0 g = some o) : Met l yX12_pop wcX12_pop rmX12_pop (hs_Pc B D E g [.ref (B + v0)]) (hs_Qi B D E o) (0) (0) (hs_F B) := by
  refine Met.ofW (cc := cX12_pop) (maxL := 2) (ret := (some .int)) (by decide) rfl ?_
  intro p e s m args below meth c s₁ Bd hml hv
  obtain ⟨rfl, hP, hK⟩ := hv
  have hx := Bd.exec
  have hb := Bd.bytes
  have hr := Bd.returns
  have hts := atoms_spec (ws := wcX12_pop) Bd.pre
  have hown : s.vm.findClass RX12 = some m.cls := findClass_of_methodNamed Bd.named
  have hlocks := Bd.notSynchronized
  have hS : hs_Sx B s.heap s.heap [] := va_S.rf
  have hX : hs_cx cX12_pop (some .int) 2 RX12 wcX12_pop p s m (List.toArray [.ref (B + v0)]) meth c D E := ⟨hx, hb, hr, hml, hown, hts, hlocks, hK⟩
  have hl := lv_entry ([.ref (B + v0)]) (n := 2) (Nat.le_of_ble_eq_true rfl)
  rw [lg_entry_eq]
  generalize (lg_sl ([.ref (B + v0)]) ++ List.replicate (2 - (lg_sl ([.ref (B + v0)])).length) Slot.unset).toArray = ls at hl ⊢
  have hl : lv_has ls 2 [(0, .ref (B + v0))] := hl
  have hP : hs_P B D E g s.heap := hP
  unfold fX12_pop at hf
  refine lv_aload_n hx hb dX12_pop_0 rfl (lv_at hl 0 rfl) ?_
  obtain ⟨h1, hf⟩ := hs_ck hf
  refine hs_geti (C := RX12) (T := TX12) (N := 48) hx hb hts (fun w h => List.mem_cons_of_mem _ (inlX12 w h)) hown hK.1 hP h1 (by decide) rfl 40 (by decide) (hts _ (List.mem_cons_of_mem _ wq859)) (fun _ h => h) rfl dX12_pop_1 ?_
  refine lv_iconst (v := 1) hx hb dX12_pop_4 (by decide) ?_
  refine lv_isub hx hb dX12_pop_5 ?_
  refine lv_istore_n (lv' := [(1, .int ((hs_I g v0 40) - (1 : Int32))), (0, .ref (B + v0))]) hx hb dX12_pop_6 rfl hl (by decide) rfl (fun ls hl => ?_)
  refine lv_aload_n hx hb dX12_pop_7 rfl (lv_at hl 1 rfl) ?_
  obtain ⟨h2, hf⟩ := hs_ck hf
  refine hs_getr (C := RX12) (T := TX12) (N := 48) hx hb hts (fun w h => List.mem_cons_of_mem _ (inlX12 w h)) hown hK.1 hP h1 (by decide) rfl 43 (by decide) (hts _ (List.mem_cons_of_mem _ wq154)) (fun _ h => h) rfl h2 dX12_pop_8 ?_
  refine lv_iload_n hx hb dX12_pop_11 rfl (lv_at hl 0 rfl) ?_
  refine lv_dup2_11 hx hb dX12_pop_12 rfl rfl ?_
  obtain ⟨h3, hf⟩ := hs_ck hf
  obtain ⟨h4, hf⟩ := hs_ck hf
  refine hs_iald hx hb hK.1 hP h3 h4 dX12_pop_13 ?_
  refine lv_iconst (v := 1) hx hb dX12_pop_14 (by decide) ?_
  refine lv_isub hx hb dX12_pop_15 ?_
  refine hs_iast hx hb hK.1 hP hS h3 h4 dX12_pop_16 (fun H locs hP hS => ?_)
  obtain ⟨g5, e6, hf⟩ := hs_bv_some hf
  replace e6 := Option.some.inj e6
  rw [e6] at hP
  have h7 : hs_kd g5 v0 = 10 := by rw [← e6]; exact h1
  have h8 : hs_kd g5 ((hs_R g v0 43) - 1) = 100 := by rw [← e6]; exact h3
  have h9 : hs_in ((hs_I g v0 40) - (1 : Int32)) (hs_ln g5 ((hs_R g v0 43) - 1)) = true := by rw [← e6]; exact h4
  refine lv_aload_n hx hb dX12_pop_17 rfl (lv_at hl 1 rfl) ?_
  obtain ⟨h10, hf⟩ := hs_ck hf
  refine hs_getr (C := RX12) (T := TX12) (N := 48) hx hb hts (fun w h => List.mem_cons_of_mem _ (inlX12 w h)) hown hK.1 hP h7 (by decide) rfl 44 (by decide) (hts _ (List.mem_cons_of_mem _ wq155)) (fun _ h => h) rfl h10 dX12_pop_18 ?_
  refine lv_bipush (v := 24) hx hb dX12_pop_21 (by decide) ?_
  refine lv_iload_n hx hb dX12_pop_23 rfl (lv_at hl 0 rfl) ?_
  refine lv_imul hx hb dX12_pop_24 ?_
  refine lv_aload_n hx hb dX12_pop_25 rfl (lv_at hl 1 rfl) ?_
  obtain ⟨h11, hf⟩ := hs_ck hf
  refine hs_getr (C := RX12) (T := TX12) (N := 48) hx hb hts (fun w h => List.mem_cons_of_mem _ (inlX12 w h)) hown hK.1 hP h7 (by decide) rfl 43 (by decide) (hts _ (List.mem_cons_of_mem _ wq154)) (fun _ h => h) rfl h11 dX12_pop_26 ?_
  refine lv_iload_n hx hb dX12_pop_29 rfl (lv_at hl 0 rfl) ?_
  obtain ⟨h12, hf⟩ := hs_ck hf
  obtain ⟨h13, hf⟩ := hs_ck hf
  refine hs_iald hx hb hK.1 hP h12 h13 dX12_pop_30 ?_
  refine lv_iadd hx hb dX12_pop_31 ?_
  obtain ⟨h14, hf⟩ := hs_ck hf
  obtain ⟨h15, hf⟩ := hs_ck hf
  refine hs_iald hx hb hK.1 hP h14 h15 dX12_pop_32 ?_
  exact hs_iret hx hb hr hlocks rfl hK hP hS hf dX12_pop_33

theorem dX12_push_0 : decode cX12_push 0 = .ok (.aload_n 0, 1) := by decide +kernel
theorem dX12_push_1 : decode cX12_push 1 = .ok (.getfield 254, 3) := by decide +kernel
theorem dX12_push_4 : decode cX12_push 4 = .ok (.iconst 1, 1) := by decide +kernel
theorem dX12_push_5 : decode cX12_push 5 = .ok (.isub, 1) := by decide +kernel
theorem dX12_push_6 : decode cX12_push 6 = .ok (.istore_n 2, 1) := by decide +kernel
theorem dX12_push_7 : decode cX12_push 7 = .ok (.aload_n 0, 1) := by decide +kernel
theorem dX12_push_8 : decode cX12_push 8 = .ok (.getfield 111, 3) := by decide +kernel
theorem dX12_push_11 : decode cX12_push 11 = .ok (.bipush 24, 2) := by decide +kernel
theorem dX12_push_13 : decode cX12_push 13 = .ok (.iload_n 2, 1) := by decide +kernel
theorem dX12_push_14 : decode cX12_push 14 = .ok (.imul, 1) := by decide +kernel
theorem dX12_push_15 : decode cX12_push 15 = .ok (.aload_n 0, 1) := by decide +kernel
theorem dX12_push_16 : decode cX12_push 16 = .ok (.getfield 108, 3) := by decide +kernel
theorem dX12_push_19 : decode cX12_push 19 = .ok (.iload_n 2, 1) := by decide +kernel
theorem dX12_push_20 : decode cX12_push 20 = .ok (.iaload, 1) := by decide +kernel
theorem dX12_push_21 : decode cX12_push 21 = .ok (.iadd, 1) := by decide +kernel
theorem dX12_push_22 : decode cX12_push 22 = .ok (.iload_n 1, 1) := by decide +kernel
theorem dX12_push_23 : decode cX12_push 23 = .ok (.iastore, 1) := by decide +kernel
theorem dX12_push_24 : decode cX12_push 24 = .ok (.aload_n 0, 1) := by decide +kernel
theorem dX12_push_25 : decode cX12_push 25 = .ok (.getfield 108, 3) := by decide +kernel
theorem dX12_push_28 : decode cX12_push 28 = .ok (.iload_n 2, 1) := by decide +kernel
theorem dX12_push_29 : decode cX12_push 29 = .ok (.dup2, 1) := by decide +kernel
theorem dX12_push_30 : decode cX12_push 30 = .ok (.iaload, 1) := by decide +kernel
theorem dX12_push_31 : decode cX12_push 31 = .ok (.iconst 1, 1) := by decide +kernel
theorem dX12_push_32 : decode cX12_push 32 = .ok (.iadd, 1) := by decide +kernel
theorem dX12_push_33 : decode cX12_push 33 = .ok (.iastore, 1) := by decide +kernel
theorem dX12_push_34 : decode cX12_push 34 = .ok (.return_, 1) := by decide +kernel
abbrev wcX12_push : List Cond := .code yX12_push cX12_push 3 none :: wsL_law
def fX12_push (v0 : Nat) (v1 : Int32) (g : hs_S) : Option (hs_S) :=
  if hs_kd g v0 = 10 then
  if ¬ (hs_R g v0 44) = 0 then
  if ¬ (hs_R g v0 43) = 0 then
  if hs_kd g ((hs_R g v0 43) - 1) = 100 then
  if hs_in ((hs_I g v0 40) - (1 : Int32)) (hs_ln g ((hs_R g v0 43) - 1)) = true then
  if hs_kd g ((hs_R g v0 44) - 1) = 100 then
  if hs_in (((24 : Int32) * ((hs_I g v0 40) - (1 : Int32))) + (hs_I g ((hs_R g v0 43) - 1) ((hs_I g v0 40) - (1 : Int32)).toNatClampNeg)) (hs_ln g ((hs_R g v0 44) - 1)) = true then
  hs_bv (some (hs_wI g ((hs_R g v0 44) - 1) (((24 : Int32) * ((hs_I g v0 40) - (1 : Int32))) + (hs_I g ((hs_R g v0 43) - 1) ((hs_I g v0 40) - (1 : Int32)).toNatClampNeg)).toNatClampNeg v1)) fun g8 =>
  if ¬ (hs_R g8 v0 43) = 0 then
  if hs_kd g8 ((hs_R g8 v0 43) - 1) = 100 then
  if hs_in ((hs_I g v0 40) - (1 : Int32)) (hs_ln g8 ((hs_R g8 v0 43) - 1)) = true then
  some (hs_wI g8 ((hs_R g8 v0 43) - 1) ((hs_I g v0 40) - (1 : Int32)).toNatClampNeg ((hs_I g8 ((hs_R g8 v0 43) - 1) ((hs_I g v0 40) - (1 : Int32)).toNatClampNeg) + (1 : Int32)))
  else none else none else none else none else none else none else none else none else none else none
abbrev rmX12_push : Room := { frames := 0, cells := 0, slots := 0, locals := 0 }
set_option maxHeartbeats 4000000 in
set_option maxRecDepth 100000 in
theorem ctX12_push (l : Launch) (B : Nat) (D : va_G) (E : Nat → ClassId) (v0 : Nat) (v1 : Int32) (g : hs_S) (o : hs_S) (hf : fX12_push v0 v1 g = some o) : Met l yX12_push wcX12_push rmX12_push (hs_Pc B D E g [.ref (B + v0), .int v1]) (hs_Qv B D E o) (0) (0) (hs_F B) := by
  refine Met.ofW (cc := cX12_push) (maxL := 3) (ret := none) (by decide) rfl ?_
  intro p e s m args below meth c s₁ Bd hml hv
  obtain ⟨rfl, hP, hK⟩ := hv
  have hx := Bd.exec
  have hb := Bd.bytes
  have hr := Bd.returns
  have hts := atoms_spec (ws := wcX12_push) Bd.pre
  have hown : s.vm.findClass RX12 = some m.cls := findClass_of_methodNamed Bd.named
  have hlocks := Bd.notSynchronized
  have hS : hs_Sx B s.heap s.heap [] := va_S.rf
  have hX : hs_cx cX12_push none 3 RX12 wcX12_push p s m (List.toArray [.ref (B + v0), .int v1]) meth c D E := ⟨hx, hb, hr, hml, hown, hts, hlocks, hK⟩
  have hl := lv_entry ([.ref (B + v0), .int v1]) (n := 3) (Nat.le_of_ble_eq_true rfl)
  rw [lg_entry_eq]
  generalize (lg_sl ([.ref (B + v0), .int v1]) ++ List.replicate (3 - (lg_sl ([.ref (B + v0), .int v1])).length) Slot.unset).toArray = ls at hl ⊢
  have hl : lv_has ls 3 [(0, .ref (B + v0)), (1, .int v1)] := hl
  have hP : hs_P B D E g s.heap := hP
  unfold fX12_push at hf
  refine lv_aload_n hx hb dX12_push_0 rfl (lv_at hl 0 rfl) ?_
  obtain ⟨h1, hf⟩ := hs_ck hf
  refine hs_geti (C := RX12) (T := TX12) (N := 48) hx hb hts (fun w h => List.mem_cons_of_mem _ (inlX12 w h)) hown hK.1 hP h1 (by decide) rfl 40 (by decide) (hts _ (List.mem_cons_of_mem _ wq859)) (fun _ h => h) rfl dX12_push_1 ?_
  refine lv_iconst (v := 1) hx hb dX12_push_4 (by decide) ?_
  refine lv_isub hx hb dX12_push_5 ?_
  refine lv_istore_n (lv' := [(2, .int ((hs_I g v0 40) - (1 : Int32))), (0, .ref (B + v0)), (1, .int v1)]) hx hb dX12_push_6 rfl hl (by decide) rfl (fun ls hl => ?_)
  refine lv_aload_n hx hb dX12_push_7 rfl (lv_at hl 1 rfl) ?_
  obtain ⟨h2, hf⟩ := hs_ck hf
  refine hs_getr (C := RX12) (T := TX12) (N := 48) hx hb hts (fun w h => List.mem_cons_of_mem _ (inlX12 w h)) hown hK.1 hP h1 (by decide) rfl 44 (by decide) (hts _ (List.mem_cons_of_mem _ wq155)) (fun _ h => h) rfl h2 dX12_push_8 ?_
  refine lv_bipush (v := 24) hx hb dX12_push_11 (by decide) ?_
  refine lv_iload_n hx hb dX12_push_13 rfl (lv_at hl 0 rfl) ?_
  refine lv_imul hx hb dX12_push_14 ?_
  refine lv_aload_n hx hb dX12_push_15 rfl (lv_at hl 1 rfl) ?_
  obtain ⟨h3, hf⟩ := hs_ck hf
  refine hs_getr (C := RX12) (T := TX12) (N := 48) hx hb hts (fun w h => List.mem_cons_of_mem _ (inlX12 w h)) hown hK.1 hP h1 (by decide) rfl 43 (by decide) (hts _ (List.mem_cons_of_mem _ wq154)) (fun _ h => h) rfl h3 dX12_push_16 ?_
  refine lv_iload_n hx hb dX12_push_19 rfl (lv_at hl 0 rfl) ?_
  obtain ⟨h4, hf⟩ := hs_ck hf
  obtain ⟨h5, hf⟩ := hs_ck hf
  refine hs_iald hx hb hK.1 hP h4 h5 dX12_push_20 ?_
  refine lv_iadd hx hb dX12_push_21 ?_
  refine lv_iload_n hx hb dX12_push_22 rfl (lv_at hl 2 rfl) ?_
  obtain ⟨h6, hf⟩ := hs_ck hf
  obtain ⟨h7, hf⟩ := hs_ck hf
  refine hs_iast hx hb hK.1 hP hS h6 h7 dX12_push_23 (fun H locs hP hS => ?_)
  obtain ⟨g8, e9, hf⟩ := hs_bv_some hf
  replace e9 := Option.some.inj e9
  rw [e9] at hP
  have h10 : hs_kd g8 v0 = 10 := by rw [← e9]; exact h1
  have h11 : hs_kd g8 ((hs_R g v0 43) - 1) = 100 := by rw [← e9]; exact h4
  have h12 : hs_in ((hs_I g v0 40) - (1 : Int32)) (hs_ln g8 ((hs_R g v0 43) - 1)) = true := by rw [← e9]; exact h5
  have h13 : hs_kd g8 ((hs_R g v0 44) - 1) = 100 := by rw [← e9]; exact h6
  have h14 : hs_in (((24 : Int32) * ((hs_I g v0 40) - (1 : Int32))) + (hs_I g ((hs_R g v0 43) - 1) ((hs_I g v0 40) - (1 : Int32)).toNatClampNeg)) (hs_ln g8 ((hs_R g v0 44) - 1)) = true := by rw [← e9]; exact h7
  refine lv_aload_n hx hb dX12_push_24 rfl (lv_at hl 1 rfl) ?_
  obtain ⟨h15, hf⟩ := hs_ck hf
  refine hs_getr (C := RX12) (T := TX12) (N := 48) hx hb hts (fun w h => List.mem_cons_of_mem _ (inlX12 w h)) hown hK.1 hP h10 (by decide) rfl 43 (by decide) (hts _ (List.mem_cons_of_mem _ wq154)) (fun _ h => h) rfl h15 dX12_push_25 ?_
  refine lv_iload_n hx hb dX12_push_28 rfl (lv_at hl 0 rfl) ?_
  refine lv_dup2_11 hx hb dX12_push_29 rfl rfl ?_
  obtain ⟨h16, hf⟩ := hs_ck hf
  obtain ⟨h17, hf⟩ := hs_ck hf
  refine hs_iald hx hb hK.1 hP h16 h17 dX12_push_30 ?_
  refine lv_iconst (v := 1) hx hb dX12_push_31 (by decide) ?_
  refine lv_iadd hx hb dX12_push_32 ?_
  refine hs_iast hx hb hK.1 hP hS h16 h17 dX12_push_33 (fun H locs hP hS => ?_)
  exact hs_vret hx hb hr hlocks hK hP hS hf dX12_push_34

theorem dX12_ends_0 : decode cX12_ends 0 = .ok (.aload_n 0, 1) := by decide +kernel
theorem dX12_ends_1 : decode cX12_ends 1 = .ok (.invokevirtual 300, 3) := by decide +kernel
theorem dX12_ends_4 : decode cX12_ends 4 = .ok (.istore_n 1, 1) := by decide +kernel
theorem dX12_ends_5 : decode cX12_ends 5 = .ok (.aload_n 0, 1) := by decide +kernel
theorem dX12_ends_6 : decode cX12_ends 6 = .ok (.dup, 1) := by decide +kernel
theorem dX12_ends_7 : decode cX12_ends 7 = .ok (.getfield 254, 3) := by decide +kernel
theorem dX12_ends_10 : decode cX12_ends 10 = .ok (.iconst 1, 1) := by decide +kernel
theorem dX12_ends_11 : decode cX12_ends 11 = .ok (.isub, 1) := by decide +kernel
theorem dX12_ends_12 : decode cX12_ends 12 = .ok (.putfield 254, 3) := by decide +kernel
theorem dX12_ends_15 : decode cX12_ends 15 = .ok (.aload_n 0, 1) := by decide +kernel
theorem dX12_ends_16 : decode cX12_ends 16 = .ok (.getfield 254, 3) := by decide +kernel
theorem dX12_ends_19 : decode cX12_ends 19 = .ok (.ifCond .ne 11, 3) := by decide +kernel
theorem dX12_ends_22 : decode cX12_ends 22 = .ok (.aload_n 0, 1) := by decide +kernel
theorem dX12_ends_23 : decode cX12_ends 23 = .ok (.iload_n 1, 1) := by decide +kernel
theorem dX12_ends_24 : decode cX12_ends 24 = .ok (.putfield 258, 3) := by decide +kernel
theorem dX12_ends_27 : decode cX12_ends 27 = .ok (.goto 23, 3) := by decide +kernel
theorem dX12_ends_30 : decode cX12_ends 30 = .ok (.aload_n 0, 1) := by decide +kernel
theorem dX12_ends_31 : decode cX12_ends 31 = .ok (.getfield 105, 3) := by decide +kernel
theorem dX12_ends_34 : decode cX12_ends 34 = .ok (.aload_n 0, 1) := by decide +kernel
theorem dX12_ends_35 : decode cX12_ends 35 = .ok (.getfield 254, 3) := by decide +kernel
theorem dX12_ends_38 : decode cX12_ends 38 = .ok (.iconst 1, 1) := by decide +kernel
theorem dX12_ends_39 : decode cX12_ends 39 = .ok (.isub, 1) := by decide +kernel
theorem dX12_ends_40 : decode cX12_ends 40 = .ok (.dup2, 1) := by decide +kernel
theorem dX12_ends_41 : decode cX12_ends 41 = .ok (.iaload, 1) := by decide +kernel
theorem dX12_ends_42 : decode cX12_ends 42 = .ok (.iconst 2, 1) := by decide +kernel
theorem dX12_ends_43 : decode cX12_ends 43 = .ok (.iadd, 1) := by decide +kernel
theorem dX12_ends_44 : decode cX12_ends 44 = .ok (.iastore, 1) := by decide +kernel
theorem dX12_ends_45 : decode cX12_ends 45 = .ok (.aload_n 0, 1) := by decide +kernel
theorem dX12_ends_46 : decode cX12_ends 46 = .ok (.iload_n 1, 1) := by decide +kernel
theorem dX12_ends_47 : decode cX12_ends 47 = .ok (.invokevirtual 303, 3) := by decide +kernel
theorem dX12_ends_50 : decode cX12_ends 50 = .ok (.return_, 1) := by decide +kernel
abbrev wcX12_ends : List Cond := .code yX12_ends cX12_ends 2 none :: wsL_law
def fX12_ends (v0 : Nat) (g : hs_S) : Option (hs_S) :=
  if hs_kd g v0 = 10 then
  hs_bd (fX12_pop v0 g) fun r3 g2 =>
  if hs_kd g2 v0 = 10 then
  if (hs_I (hs_wI g2 v0 40 ((hs_I g2 v0 40) - (1 : Int32))) v0 40) = 0 then (
    some (hs_wI (hs_wI g2 v0 40 ((hs_I g2 v0 40) - (1 : Int32))) v0 36 r3)
  ) else (
    if ¬ (hs_R (hs_wI g2 v0 40 ((hs_I g2 v0 40) - (1 : Int32))) v0 42) = 0 then
    if hs_kd (hs_wI g2 v0 40 ((hs_I g2 v0 40) - (1 : Int32))) ((hs_R (hs_wI g2 v0 40 ((hs_I g2 v0 40) - (1 : Int32))) v0 42) - 1) = 100 then
    if hs_in ((hs_I (hs_wI g2 v0 40 ((hs_I g2 v0 40) - (1 : Int32))) v0 40) - (1 : Int32)) (hs_ln (hs_wI g2 v0 40 ((hs_I g2 v0 40) - (1 : Int32))) ((hs_R (hs_wI g2 v0 40 ((hs_I g2 v0 40) - (1 : Int32))) v0 42) - 1)) = true then
    hs_bv (some (hs_wI (hs_wI g2 v0 40 ((hs_I g2 v0 40) - (1 : Int32))) ((hs_R (hs_wI g2 v0 40 ((hs_I g2 v0 40) - (1 : Int32))) v0 42) - 1) ((hs_I (hs_wI g2 v0 40 ((hs_I g2 v0 40) - (1 : Int32))) v0 40) - (1 : Int32)).toNatClampNeg ((hs_I (hs_wI g2 v0 40 ((hs_I g2 v0 40) - (1 : Int32))) ((hs_R (hs_wI g2 v0 40 ((hs_I g2 v0 40) - (1 : Int32))) v0 42) - 1) ((hs_I (hs_wI g2 v0 40 ((hs_I g2 v0 40) - (1 : Int32))) v0 40) - (1 : Int32)).toNatClampNeg) + (2 : Int32)))) fun g9 =>
    hs_bv (fX12_push v0 r3 g9) fun g14 =>
    some g14
    else none else none else none
  )
  else none else none
abbrev rmX12_ends : Room := { frames := 1, cells := 0, slots := 0, locals := 22 }
set_option maxHeartbeats 4000000 in
set_option maxRecDepth 100000 in
theorem ctX12_ends (l : Launch) (B : Nat) (D : va_G) (E : Nat → ClassId) (v0 : Nat) (g : hs_S) (o : hs_S) (hf : fX12_ends v0 g = some o) : Met l yX12_ends wcX12_ends rmX12_ends (hs_Pc B D E g [.ref (B + v0)]) (hs_Qv B D E o) (0) (0) (hs_F B) := by
  refine Met.ofW (cc := cX12_ends) (maxL := 2) (ret := none) (by decide) rfl ?_
  intro p e s m args below meth c s₁ Bd hml hv
  obtain ⟨rfl, hP, hK⟩ := hv
  have hx := Bd.exec
  have hb := Bd.bytes
  have hr := Bd.returns
  have hts := atoms_spec (ws := wcX12_ends) Bd.pre
  have hown : s.vm.findClass RX12 = some m.cls := findClass_of_methodNamed Bd.named
  have hlocks := Bd.notSynchronized
  have hS : hs_Sx B s.heap s.heap [] := va_S.rf
  have hX : hs_cx cX12_ends none 2 RX12 wcX12_ends p s m (List.toArray [.ref (B + v0)]) meth c D E := ⟨hx, hb, hr, hml, hown, hts, hlocks, hK⟩
  have hl := lv_entry ([.ref (B + v0)]) (n := 2) (Nat.le_of_ble_eq_true rfl)
  rw [lg_entry_eq]
  generalize (lg_sl ([.ref (B + v0)]) ++ List.replicate (2 - (lg_sl ([.ref (B + v0)])).length) Slot.unset).toArray = ls at hl ⊢
  have hl : lv_has ls 2 [(0, .ref (B + v0))] := hl
  have hP : hs_P B D E g s.heap := hP
  unfold fX12_ends at hf
  refine lv_aload_n hx hb dX12_ends_0 rfl (lv_at hl 0 rfl) ?_
  obtain ⟨h1, hf⟩ := hs_ck hf
  obtain ⟨r3, g2, h4, hf⟩ := hs_bd_some hf
  refine hs_calli (va_runV (As := []) (rest := []) ⟨hx, hb, hml, hown, hts⟩ (ctX12_pop l B D E v0 g _ h4) (cwV 0 hts (hs_gV (fun _ h => List.mem_cons_of_mem _ h) wq886 wq887 wq888 wq5 wq889) rfl rfl rfl (by decide +kernel) ⟨Nat.le_of_ble_eq_true rfl, Nat.le_of_ble_eq_true rfl⟩) (hs_preV (r := (RX12, TX12, 48)) hP hK h1 (by decide) rfl) rfl rfl hl.1 rfl (lv_room (Nat.le_of_ble_eq_true rfl)) dX12_ends_1 ⟨(Nat.le_of_ble_eq_true rfl), (Nat.le_of_ble_eq_true rfl)⟩) hS (fun H locs hP hS => ?_)
  refine lv_istore_n (lv' := [(1, .int r3), (0, .ref (B + v0))]) hx hb dX12_ends_4 rfl hl (by decide) rfl (fun ls hl => ?_)
  refine lv_aload_n hx hb dX12_ends_5 rfl (lv_at hl 1 rfl) ?_
  refine lv_dup hx hb dX12_ends_6 rfl ?_
  obtain ⟨h5, hf⟩ := hs_ck hf
  refine hs_geti (C := RX12) (T := TX12) (N := 48) hx hb hts (fun w h => List.mem_cons_of_mem _ (inlX12 w h)) hown hK.1 hP h5 (by decide) rfl 40 (by decide) (hts _ (List.mem_cons_of_mem _ wq859)) (fun _ h => h) rfl dX12_ends_7 ?_
  refine lv_iconst (v := 1) hx hb dX12_ends_10 (by decide) ?_
  refine lv_isub hx hb dX12_ends_11 ?_
  refine hs_puti (C := RX12) (T := TX12) (N := 48) hx hb hts (fun w h => List.mem_cons_of_mem _ (inlX12 w h)) tyX12 tyX12_ok nmX12 hown hK.1 hP hS h5 (by decide) rfl 40 (by decide) (hts _ (List.mem_cons_of_mem _ wq859)) (fun _ h => h) (Or.inl rfl) rfl rfl rfl dX12_ends_12 (fun H locs hP hS => ?_)
  refine lv_aload_n hx hb dX12_ends_15 rfl (lv_at hl 1 rfl) ?_
  refine hs_geti (C := RX12) (T := TX12) (N := 48) hx hb hts (fun w h => List.mem_cons_of_mem _ (inlX12 w h)) hown hK.1 hP h5 (by decide) rfl 40 (by decide) (hts _ (List.mem_cons_of_mem _ wq859)) (fun _ h => h) rfl dX12_ends_16 ?_
  refine lv_if_ne (tgt := 30) hx hb dX12_ends_19 (by decide) (fun hc => ?_) (fun hc => ?_)
  · replace hf := hs_f hf hc
    refine lv_aload_n hx hb dX12_ends_30 rfl (lv_at hl 1 rfl) ?_
    obtain ⟨h6, hf⟩ := hs_ck hf
    refine hs_getr (C := RX12) (T := TX12) (N := 48) hx hb hts (fun w h => List.mem_cons_of_mem _ (inlX12 w h)) hown hK.1 hP h5 (by decide) rfl 42 (by decide) (hts _ (List.mem_cons_of_mem _ wq153)) (fun _ h => h) rfl h6 dX12_ends_31 ?_
    refine lv_aload_n hx hb dX12_ends_34 rfl (lv_at hl 1 rfl) ?_
    refine hs_geti (C := RX12) (T := TX12) (N := 48) hx hb hts (fun w h => List.mem_cons_of_mem _ (inlX12 w h)) hown hK.1 hP h5 (by decide) rfl 40 (by decide) (hts _ (List.mem_cons_of_mem _ wq859)) (fun _ h => h) rfl dX12_ends_35 ?_
    refine lv_iconst (v := 1) hx hb dX12_ends_38 (by decide) ?_
    refine lv_isub hx hb dX12_ends_39 ?_
    refine lv_dup2_11 hx hb dX12_ends_40 rfl rfl ?_
    obtain ⟨h7, hf⟩ := hs_ck hf
    obtain ⟨h8, hf⟩ := hs_ck hf
    refine hs_iald hx hb hK.1 hP h7 h8 dX12_ends_41 ?_
    refine lv_iconst (v := 2) hx hb dX12_ends_42 (by decide) ?_
    refine lv_iadd hx hb dX12_ends_43 ?_
    refine hs_iast hx hb hK.1 hP hS h7 h8 dX12_ends_44 (fun H locs hP hS => ?_)
    obtain ⟨g9, e10, hf⟩ := hs_bv_some hf
    replace e10 := Option.some.inj e10
    rw [e10] at hP
    have h11 : hs_kd g9 v0 = 10 := by rw [← e10]; exact h5
    have h12 : hs_kd g9 ((hs_R (hs_wI g2 v0 40 ((hs_I g2 v0 40) - (1 : Int32))) v0 42) - 1) = 100 := by rw [← e10]; exact h7
    have h13 : hs_in ((hs_I (hs_wI g2 v0 40 ((hs_I g2 v0 40) - (1 : Int32))) v0 40) - (1 : Int32)) (hs_ln g9 ((hs_R (hs_wI g2 v0 40 ((hs_I g2 v0 40) - (1 : Int32))) v0 42) - 1)) = true := by rw [← e10]; exact h8
    refine lv_aload_n hx hb dX12_ends_45 rfl (lv_at hl 1 rfl) ?_
    refine lv_iload_n hx hb dX12_ends_46 rfl (lv_at hl 0 rfl) ?_
    obtain ⟨g14, h16, hf⟩ := hs_bv_some hf
    refine hs_callv (va_runV (As := [.int r3]) (rest := []) ⟨hx, hb, hml, hown, hts⟩ (ctX12_push l B D E v0 r3 g9 _ h16) (cwV 1 hts (hs_gV (fun _ h => List.mem_cons_of_mem _ h) wq890 wq891 wq892 wq5 wq893) rfl rfl rfl (by decide +kernel) ⟨Nat.le_of_ble_eq_true rfl, Nat.le_of_ble_eq_true rfl⟩) (hs_preV (r := (RX12, TX12, 48)) hP hK h11 (by decide) rfl) rfl rfl hl.1 rfl (lv_room (Nat.le_of_ble_eq_true rfl)) dX12_ends_47 ⟨(Nat.le_of_ble_eq_true rfl), (Nat.le_of_ble_eq_true rfl)⟩) hS (fun H locs hP hS => ?_)
    exact hs_vret hx hb hr hlocks hK hP hS hf dX12_ends_50
  · replace hf := hs_t hf hc
    refine lv_aload_n hx hb dX12_ends_22 rfl (lv_at hl 1 rfl) ?_
    refine lv_iload_n hx hb dX12_ends_23 rfl (lv_at hl 0 rfl) ?_
    refine hs_puti (C := RX12) (T := TX12) (N := 48) hx hb hts (fun w h => List.mem_cons_of_mem _ (inlX12 w h)) tyX12 tyX12_ok nmX12 hown hK.1 hP hS h5 (by decide) rfl 36 (by decide) (hts _ (List.mem_cons_of_mem _ wq855)) (fun _ h => h) (Or.inl rfl) rfl rfl rfl dX12_ends_24 (fun H locs hP hS => ?_)
    refine lv_goto (tgt := 50) hx hb dX12_ends_27 (by decide) ?_
    exact hs_vret hx hb hr hlocks hK hP hS hf dX12_ends_50

theorem dX12_calls_0 : decode cX12_calls 0 = .ok (.aload_n 0, 1) := by decide +kernel
theorem dX12_calls_1 : decode cX12_calls 1 = .ok (.getfield 254, 3) := by decide +kernel
theorem dX12_calls_4 : decode cX12_calls 4 = .ok (.bipush 60, 2) := by decide +kernel
theorem dX12_calls_6 : decode cX12_calls 6 = .ok (.if_icmp .ne 9, 3) := by decide +kernel
theorem dX12_calls_9 : decode cX12_calls 9 = .ok (.aload_n 0, 1) := by decide +kernel
theorem dX12_calls_10 : decode cX12_calls 10 = .ok (.iconst 1, 1) := by decide +kernel
theorem dX12_calls_11 : decode cX12_calls 11 = .ok (.putfield 248, 3) := by decide +kernel
theorem dX12_calls_14 : decode cX12_calls 14 = .ok (.return_, 1) := by decide +kernel
theorem dX12_calls_15 : decode cX12_calls 15 = .ok (.aload_n 0, 1) := by decide +kernel
theorem dX12_calls_16 : decode cX12_calls 16 = .ok (.iconst 1, 1) := by decide +kernel
theorem dX12_calls_17 : decode cX12_calls 17 = .ok (.invokevirtual 276, 3) := by decide +kernel
theorem dX12_calls_20 : decode cX12_calls 20 = .ok (.istore_n 1, 1) := by decide +kernel
theorem dX12_calls_21 : decode cX12_calls 21 = .ok (.aload_n 0, 1) := by decide +kernel
theorem dX12_calls_22 : decode cX12_calls 22 = .ok (.getfield 254, 3) := by decide +kernel
theorem dX12_calls_25 : decode cX12_calls 25 = .ok (.iconst 1, 1) := by decide +kernel
theorem dX12_calls_26 : decode cX12_calls 26 = .ok (.isub, 1) := by decide +kernel
theorem dX12_calls_27 : decode cX12_calls 27 = .ok (.istore_n 2, 1) := by decide +kernel
theorem dX12_calls_28 : decode cX12_calls 28 = .ok (.aload_n 0, 1) := by decide +kernel
theorem dX12_calls_29 : decode cX12_calls 29 = .ok (.getfield 108, 3) := by decide +kernel
theorem dX12_calls_32 : decode cX12_calls 32 = .ok (.iload_n 2, 1) := by decide +kernel
theorem dX12_calls_33 : decode cX12_calls 33 = .ok (.dup2, 1) := by decide +kernel
theorem dX12_calls_34 : decode cX12_calls 34 = .ok (.iaload, 1) := by decide +kernel
theorem dX12_calls_35 : decode cX12_calls 35 = .ok (.aload_n 0, 1) := by decide +kernel
theorem dX12_calls_36 : decode cX12_calls 36 = .ok (.getfield 17, 3) := by decide +kernel
theorem dX12_calls_39 : decode cX12_calls 39 = .ok (.iload_n 1, 1) := by decide +kernel
theorem dX12_calls_40 : decode cX12_calls 40 = .ok (.iaload, 1) := by decide +kernel
theorem dX12_calls_41 : decode cX12_calls 41 = .ok (.isub, 1) := by decide +kernel
theorem dX12_calls_42 : decode cX12_calls 42 = .ok (.iastore, 1) := by decide +kernel
theorem dX12_calls_43 : decode cX12_calls 43 = .ok (.aload_n 0, 1) := by decide +kernel
theorem dX12_calls_44 : decode cX12_calls 44 = .ok (.iload_n 1, 1) := by decide +kernel
theorem dX12_calls_45 : decode cX12_calls 45 = .ok (.invokevirtual 264, 3) := by decide +kernel
theorem dX12_calls_48 : decode cX12_calls 48 = .ok (.iconst 0, 1) := by decide +kernel
theorem dX12_calls_49 : decode cX12_calls 49 = .ok (.istore_n 3, 1) := by decide +kernel
theorem dX12_calls_50 : decode cX12_calls 50 = .ok (.iload_n 3, 1) := by decide +kernel
theorem dX12_calls_51 : decode cX12_calls 51 = .ok (.aload_n 0, 1) := by decide +kernel
theorem dX12_calls_52 : decode cX12_calls 52 = .ok (.getfield 17, 3) := by decide +kernel
theorem dX12_calls_55 : decode cX12_calls 55 = .ok (.iload_n 1, 1) := by decide +kernel
theorem dX12_calls_56 : decode cX12_calls 56 = .ok (.iaload, 1) := by decide +kernel
theorem dX12_calls_57 : decode cX12_calls 57 = .ok (.if_icmp .ge 43, 3) := by decide +kernel
theorem dX12_calls_60 : decode cX12_calls 60 = .ok (.aload_n 0, 1) := by decide +kernel
theorem dX12_calls_61 : decode cX12_calls 61 = .ok (.getfield 114, 3) := by decide +kernel
theorem dX12_calls_64 : decode cX12_calls 64 = .ok (.bipush 20, 2) := by decide +kernel
theorem dX12_calls_66 : decode cX12_calls 66 = .ok (.aload_n 0, 1) := by decide +kernel
theorem dX12_calls_67 : decode cX12_calls 67 = .ok (.getfield 254, 3) := by decide +kernel
theorem dX12_calls_70 : decode cX12_calls 70 = .ok (.iconst 1, 1) := by decide +kernel
theorem dX12_calls_71 : decode cX12_calls 71 = .ok (.isub, 1) := by decide +kernel
theorem dX12_calls_72 : decode cX12_calls 72 = .ok (.imul, 1) := by decide +kernel
theorem dX12_calls_73 : decode cX12_calls 73 = .ok (.iload_n 3, 1) := by decide +kernel
theorem dX12_calls_74 : decode cX12_calls 74 = .ok (.iadd, 1) := by decide +kernel
theorem dX12_calls_75 : decode cX12_calls 75 = .ok (.aload_n 0, 1) := by decide +kernel
theorem dX12_calls_76 : decode cX12_calls 76 = .ok (.getfield 111, 3) := by decide +kernel
theorem dX12_calls_79 : decode cX12_calls 79 = .ok (.bipush 24, 2) := by decide +kernel
theorem dX12_calls_81 : decode cX12_calls 81 = .ok (.iload_n 2, 1) := by decide +kernel
theorem dX12_calls_82 : decode cX12_calls 82 = .ok (.imul, 1) := by decide +kernel
theorem dX12_calls_83 : decode cX12_calls 83 = .ok (.aload_n 0, 1) := by decide +kernel
theorem dX12_calls_84 : decode cX12_calls 84 = .ok (.getfield 108, 3) := by decide +kernel
theorem dX12_calls_87 : decode cX12_calls 87 = .ok (.iload_n 2, 1) := by decide +kernel
theorem dX12_calls_88 : decode cX12_calls 88 = .ok (.iaload, 1) := by decide +kernel
theorem dX12_calls_89 : decode cX12_calls 89 = .ok (.iadd, 1) := by decide +kernel
theorem dX12_calls_90 : decode cX12_calls 90 = .ok (.iload_n 3, 1) := by decide +kernel
theorem dX12_calls_91 : decode cX12_calls 91 = .ok (.iadd, 1) := by decide +kernel
theorem dX12_calls_92 : decode cX12_calls 92 = .ok (.iaload, 1) := by decide +kernel
theorem dX12_calls_93 : decode cX12_calls 93 = .ok (.iastore, 1) := by decide +kernel
theorem dX12_calls_94 : decode cX12_calls 94 = .ok (.iinc 3 1, 3) := by decide +kernel
theorem dX12_calls_97 : decode cX12_calls 97 = .ok (.goto (-47), 3) := by decide +kernel
theorem dX12_calls_100 : decode cX12_calls 100 = .ok (.return_, 1) := by decide +kernel
abbrev wcX12_calls : List Cond := .code yX12_calls cX12_calls 4 none :: wsL_law
def lX12_calls_50 : Nat → Nat → Int32 → Int32 → Int32 → hs_S → Option (hs_S)
  | 0, _, _, _, _, _ => none
  | n + 1, v0, v1, v2, v3, g =>
    if hs_kd g v0 = 10 then
    if ¬ (hs_R g v0 5) = 0 then
    if hs_kd g ((hs_R g v0 5) - 1) = 100 then
    if hs_in v1 (hs_ln g ((hs_R g v0 5) - 1)) = true then
    if (hs_I g ((hs_R g v0 5) - 1) v1.toNatClampNeg) ≤ v3 then (
      some g
    ) else (
      if ¬ (hs_R g v0 45) = 0 then
      if ¬ (hs_R g v0 44) = 0 then
      if ¬ (hs_R g v0 43) = 0 then
      if hs_kd g ((hs_R g v0 43) - 1) = 100 then
      if hs_in v2 (hs_ln g ((hs_R g v0 43) - 1)) = true then
      if hs_kd g ((hs_R g v0 44) - 1) = 100 then
      if hs_in ((((24 : Int32) * v2) + (hs_I g ((hs_R g v0 43) - 1) v2.toNatClampNeg)) + v3) (hs_ln g ((hs_R g v0 44) - 1)) = true then
      if hs_kd g ((hs_R g v0 45) - 1) = 100 then
      if hs_in (((20 : Int32) * ((hs_I g v0 40) - (1 : Int32))) + v3) (hs_ln g ((hs_R g v0 45) - 1)) = true then
      hs_bv (some (hs_wI g ((hs_R g v0 45) - 1) (((20 : Int32) * ((hs_I g v0 40) - (1 : Int32))) + v3).toNatClampNeg (hs_I g ((hs_R g v0 44) - 1) ((((24 : Int32) * v2) + (hs_I g ((hs_R g v0 43) - 1) v2.toNatClampNeg)) + v3).toNatClampNeg))) fun g35 =>
      lX12_calls_50 n v0 v1 v2 (v3 + (1 : Int32)) g35
      else none else none else none else none else none else none else none else none else none
    )
    else none else none else none else none
theorem lX12_calls_50_s (n : Nat) (v0 : Nat) (v1 : Int32) (v2 : Int32) (v3 : Int32) (g : hs_S) : lX12_calls_50 (n + 1) v0 v1 v2 v3 g =
    if hs_kd g v0 = 10 then
    if ¬ (hs_R g v0 5) = 0 then
    if hs_kd g ((hs_R g v0 5) - 1) = 100 then
    if hs_in v1 (hs_ln g ((hs_R g v0 5) - 1)) = true then
    if (hs_I g ((hs_R g v0 5) - 1) v1.toNatClampNeg) ≤ v3 then (
      some g
    ) else (
      if ¬ (hs_R g v0 45) = 0 then
      if ¬ (hs_R g v0 44) = 0 then
      if ¬ (hs_R g v0 43) = 0 then
      if hs_kd g ((hs_R g v0 43) - 1) = 100 then
      if hs_in v2 (hs_ln g ((hs_R g v0 43) - 1)) = true then
      if hs_kd g ((hs_R g v0 44) - 1) = 100 then
      if hs_in ((((24 : Int32) * v2) + (hs_I g ((hs_R g v0 43) - 1) v2.toNatClampNeg)) + v3) (hs_ln g ((hs_R g v0 44) - 1)) = true then
      if hs_kd g ((hs_R g v0 45) - 1) = 100 then
      if hs_in (((20 : Int32) * ((hs_I g v0 40) - (1 : Int32))) + v3) (hs_ln g ((hs_R g v0 45) - 1)) = true then
      hs_bv (some (hs_wI g ((hs_R g v0 45) - 1) (((20 : Int32) * ((hs_I g v0 40) - (1 : Int32))) + v3).toNatClampNeg (hs_I g ((hs_R g v0 44) - 1) ((((24 : Int32) * v2) + (hs_I g ((hs_R g v0 43) - 1) v2.toNatClampNeg)) + v3).toNatClampNeg))) fun g35 =>
      lX12_calls_50 n v0 v1 v2 (v3 + (1 : Int32)) g35
      else none else none else none else none else none else none else none else none else none
    )
    else none else none else none else none := rfl
def fX12_calls (v0 : Nat) (g : hs_S) : Option (hs_S) :=
  if hs_kd g v0 = 10 then
  if (hs_I g v0 40) = (60 : Int32) then (
    some (hs_wI g v0 46 (1 : Int32))
  ) else (
    hs_bd (fX12_codeAt v0 (1 : Int32) g) fun r3 g2 =>
    if hs_kd g2 v0 = 10 then
    if ¬ (hs_R g2 v0 43) = 0 then
    if hs_kd g2 ((hs_R g2 v0 43) - 1) = 100 then
    if hs_in ((hs_I g2 v0 40) - (1 : Int32)) (hs_ln g2 ((hs_R g2 v0 43) - 1)) = true then
    if ¬ (hs_R g2 v0 5) = 0 then
    if hs_kd g2 ((hs_R g2 v0 5) - 1) = 100 then
    if hs_in r3 (hs_ln g2 ((hs_R g2 v0 5) - 1)) = true then
    hs_bv (some (hs_wI g2 ((hs_R g2 v0 43) - 1) ((hs_I g2 v0 40) - (1 : Int32)).toNatClampNeg ((hs_I g2 ((hs_R g2 v0 43) - 1) ((hs_I g2 v0 40) - (1 : Int32)).toNatClampNeg) - (hs_I g2 ((hs_R g2 v0 5) - 1) r3.toNatClampNeg)))) fun g12 =>
    hs_bv (fX12_enter v0 r3 g12) fun g19 =>
    hs_bv (lX12_calls_50 hs_N v0 r3 ((hs_I g2 v0 40) - (1 : Int32)) (0 : Int32) g19) fun g47 =>
    some g47
    else none else none else none else none else none else none else none
  )
  else none
abbrev rmX12_calls : Room := { frames := 1, cells := 0, slots := 0, locals := 22 }
set_option maxHeartbeats 4000000 in
set_option maxRecDepth 100000 in
theorem wX12_calls_50 {p : Program} {l : Launch} {e : Env} {s : State} {m : MethodId} {args : Array Value} {below : List Frame} {meth : Method} {c : Code} {B : Nat} {D : va_G} {E : Nat → ClassId} (hX : hs_cx cX12_calls none 4 RX12 wcX12_calls p s m args meth c D E) {Q : State → Prop} {o : hs_S} {v0 : Nat} {v1 : Int32} {v2 : Int32} (hex0 : ∀ (H : Heap) (locs : List Loc) (ls : Array Slot), hs_P B D E (o) H → hs_Sx B s.heap H locs → lv_has ls 4 [] → W p l e rmX12_calls s m args below meth c H locs 0 0 Q (F0 m 100 ls [])) : ∀ (n : Nat) (v3 : Int32) (g : hs_S), lX12_calls_50 n v0 v1 v2 v3 g = some o → ∀ (H : Heap) (locs : List Loc) (ls : Array Slot), hs_P B D E g H → hs_Sx B s.heap H locs → lv_has ls 4 [(0, .ref (B + v0)), (1, .int v1), (2, .int v2), (3, .int v3)] → W p l e rmX12_calls s m args below meth c H locs 0 0 Q (F0 m 50 ls []) := by
  obtain ⟨hx, hb, hr, hml, hown, hts, hlocks, hK⟩ := id hX
  intro n
  induction n with
  | zero =>
    intro v3 g hf
    cases hf
  | succ n ih =>
    intro v3 g hf H locs ls hP hS hl
    replace hf := (lX12_calls_50_s n v0 v1 v2 v3 g).symm.trans hf
    refine lv_iload_n hx hb dX12_calls_50 rfl (lv_at hl 3 rfl) ?_
    refine lv_aload_n hx hb dX12_calls_51 rfl (lv_at hl 0 rfl) ?_
    obtain ⟨h22, hf⟩ := hs_ck hf
    obtain ⟨h23, hf⟩ := hs_ck hf
    refine hs_getr (C := RX12) (T := TX12) (N := 48) hx hb hts (fun w h => List.mem_cons_of_mem _ (inlX12 w h)) hown hK.1 hP h22 (by decide) rfl 5 (by decide) (hts _ (List.mem_cons_of_mem _ wq123)) (fun _ h => h) rfl h23 dX12_calls_52 ?_
    refine lv_iload_n hx hb dX12_calls_55 rfl (lv_at hl 1 rfl) ?_
    obtain ⟨h24, hf⟩ := hs_ck hf
    obtain ⟨h25, hf⟩ := hs_ck hf
    refine hs_iald hx hb hK.1 hP h24 h25 dX12_calls_56 ?_
    refine lv_icmp_ge (tgt := 100) hx hb dX12_calls_57 (by decide) (fun hc => ?_) (fun hc => ?_)
    · replace hf := hs_t hf hc
      obtain rfl := Option.some.inj hf
      exact hex0 _ _ _ hP hS (lv_sub hl [] rfl)
    · replace hf := hs_f hf hc
      refine lv_aload_n hx hb dX12_calls_60 rfl (lv_at hl 0 rfl) ?_
      obtain ⟨h26, hf⟩ := hs_ck hf
      refine hs_getr (C := RX12) (T := TX12) (N := 48) hx hb hts (fun w h => List.mem_cons_of_mem _ (inlX12 w h)) hown hK.1 hP h22 (by decide) rfl 45 (by decide) (hts _ (List.mem_cons_of_mem _ wq156)) (fun _ h => h) rfl h26 dX12_calls_61 ?_
      refine lv_bipush (v := 20) hx hb dX12_calls_64 (by decide) ?_
      refine lv_aload_n hx hb dX12_calls_66 rfl (lv_at hl 0 rfl) ?_
      refine hs_geti (C := RX12) (T := TX12) (N := 48) hx hb hts (fun w h => List.mem_cons_of_mem _ (inlX12 w h)) hown hK.1 hP h22 (by decide) rfl 40 (by decide) (hts _ (List.mem_cons_of_mem _ wq859)) (fun _ h => h) rfl dX12_calls_67 ?_
      refine lv_iconst (v := 1) hx hb dX12_calls_70 (by decide) ?_
      refine lv_isub hx hb dX12_calls_71 ?_
      refine lv_imul hx hb dX12_calls_72 ?_
      refine lv_iload_n hx hb dX12_calls_73 rfl (lv_at hl 3 rfl) ?_
      refine lv_iadd hx hb dX12_calls_74 ?_
      refine lv_aload_n hx hb dX12_calls_75 rfl (lv_at hl 0 rfl) ?_
      obtain ⟨h27, hf⟩ := hs_ck hf
      refine hs_getr (C := RX12) (T := TX12) (N := 48) hx hb hts (fun w h => List.mem_cons_of_mem _ (inlX12 w h)) hown hK.1 hP h22 (by decide) rfl 44 (by decide) (hts _ (List.mem_cons_of_mem _ wq155)) (fun _ h => h) rfl h27 dX12_calls_76 ?_
      refine lv_bipush (v := 24) hx hb dX12_calls_79 (by decide) ?_
      refine lv_iload_n hx hb dX12_calls_81 rfl (lv_at hl 2 rfl) ?_
      refine lv_imul hx hb dX12_calls_82 ?_
      refine lv_aload_n hx hb dX12_calls_83 rfl (lv_at hl 0 rfl) ?_
      obtain ⟨h28, hf⟩ := hs_ck hf
      refine hs_getr (C := RX12) (T := TX12) (N := 48) hx hb hts (fun w h => List.mem_cons_of_mem _ (inlX12 w h)) hown hK.1 hP h22 (by decide) rfl 43 (by decide) (hts _ (List.mem_cons_of_mem _ wq154)) (fun _ h => h) rfl h28 dX12_calls_84 ?_
      refine lv_iload_n hx hb dX12_calls_87 rfl (lv_at hl 2 rfl) ?_
      obtain ⟨h29, hf⟩ := hs_ck hf
      obtain ⟨h30, hf⟩ := hs_ck hf
      refine hs_iald hx hb hK.1 hP h29 h30 dX12_calls_88 ?_
      refine lv_iadd hx hb dX12_calls_89 ?_
      refine lv_iload_n hx hb dX12_calls_90 rfl (lv_at hl 3 rfl) ?_
      refine lv_iadd hx hb dX12_calls_91 ?_
      obtain ⟨h31, hf⟩ := hs_ck hf
      obtain ⟨h32, hf⟩ := hs_ck hf
      refine hs_iald hx hb hK.1 hP h31 h32 dX12_calls_92 ?_
      obtain ⟨h33, hf⟩ := hs_ck hf
      obtain ⟨h34, hf⟩ := hs_ck hf
      refine hs_iast hx hb hK.1 hP hS h33 h34 dX12_calls_93 (fun H locs hP hS => ?_)
      obtain ⟨g35, e36, hf⟩ := hs_bv_some hf
      replace e36 := Option.some.inj e36
      rw [e36] at hP
      have h37 : hs_kd g35 v0 = 10 := by rw [← e36]; exact h22
      have h38 : hs_kd g35 ((hs_R g v0 5) - 1) = 100 := by rw [← e36]; exact h24
      have h39 : hs_in v1 (hs_ln g35 ((hs_R g v0 5) - 1)) = true := by rw [← e36]; exact h25
      have h40 : hs_kd g35 ((hs_R g v0 43) - 1) = 100 := by rw [← e36]; exact h29
      have h41 : hs_in v2 (hs_ln g35 ((hs_R g v0 43) - 1)) = true := by rw [← e36]; exact h30
      have h42 : hs_kd g35 ((hs_R g v0 44) - 1) = 100 := by rw [← e36]; exact h31
      have h43 : hs_in ((((24 : Int32) * v2) + (hs_I g ((hs_R g v0 43) - 1) v2.toNatClampNeg)) + v3) (hs_ln g35 ((hs_R g v0 44) - 1)) = true := by rw [← e36]; exact h32
      have h44 : hs_kd g35 ((hs_R g v0 45) - 1) = 100 := by rw [← e36]; exact h33
      have h45 : hs_in (((20 : Int32) * ((hs_I g v0 40) - (1 : Int32))) + v3) (hs_ln g35 ((hs_R g v0 45) - 1)) = true := by rw [← e36]; exact h34
      refine lv_iinc (v := (v3 + (1 : Int32))) (lv' := [(3, .int (v3 + (1 : Int32))), (0, .ref (B + v0)), (1, .int v1), (2, .int v2)]) hx hb dX12_calls_94 hl (k := 3) rfl (by rfl) (by decide) rfl (fun ls hl => ?_)
      refine lv_goto (tgt := 50) hx hb dX12_calls_97 (by decide) ?_
      exact ih _ _ hf _ _ _ hP hS (lv_sub hl [1, 2, 3, 0] rfl)

set_option maxHeartbeats 4000000 in
set_option maxRecDepth 100000 in
theorem ctX12_calls (l : Launch) (B : Nat) (D : va_G) (E : Nat → ClassId) (v0 : Nat) (g : hs_S) (o : hs_S) (hf : fX12_calls v0 g = some o) : Met l yX12_calls wcX12_calls rmX12_calls (hs_Pc B D E g [.ref (B + v0)]) (hs_Qv B D E o) (0) (0) (hs_F B) := by
  refine Met.ofW (cc := cX12_calls) (maxL := 4) (ret := none) (by decide) rfl ?_
  intro p e s m args below meth c s₁ Bd hml hv
  obtain ⟨rfl, hP, hK⟩ := hv
  have hx := Bd.exec
  have hb := Bd.bytes
  have hr := Bd.returns
  have hts := atoms_spec (ws := wcX12_calls) Bd.pre
  have hown : s.vm.findClass RX12 = some m.cls := findClass_of_methodNamed Bd.named
  have hlocks := Bd.notSynchronized
  have hS : hs_Sx B s.heap s.heap [] := va_S.rf
  have hX : hs_cx cX12_calls none 4 RX12 wcX12_calls p s m (List.toArray [.ref (B + v0)]) meth c D E := ⟨hx, hb, hr, hml, hown, hts, hlocks, hK⟩
  have hl := lv_entry ([.ref (B + v0)]) (n := 4) (Nat.le_of_ble_eq_true rfl)
  rw [lg_entry_eq]
  generalize (lg_sl ([.ref (B + v0)]) ++ List.replicate (4 - (lg_sl ([.ref (B + v0)])).length) Slot.unset).toArray = ls at hl ⊢
  have hl : lv_has ls 4 [(0, .ref (B + v0))] := hl
  have hP : hs_P B D E g s.heap := hP
  unfold fX12_calls at hf
  refine lv_aload_n hx hb dX12_calls_0 rfl (lv_at hl 0 rfl) ?_
  obtain ⟨h1, hf⟩ := hs_ck hf
  refine hs_geti (C := RX12) (T := TX12) (N := 48) hx hb hts (fun w h => List.mem_cons_of_mem _ (inlX12 w h)) hown hK.1 hP h1 (by decide) rfl 40 (by decide) (hts _ (List.mem_cons_of_mem _ wq859)) (fun _ h => h) rfl dX12_calls_1 ?_
  refine lv_bipush (v := 60) hx hb dX12_calls_4 (by decide) ?_
  refine lv_icmp_ne (tgt := 15) hx hb dX12_calls_6 (by decide) (fun hc => ?_) (fun hc => ?_)
  · replace hf := hs_f hf hc
    refine lv_aload_n hx hb dX12_calls_15 rfl (lv_at hl 0 rfl) ?_
    refine lv_iconst (v := 1) hx hb dX12_calls_16 (by decide) ?_
    obtain ⟨r3, g2, h4, hf⟩ := hs_bd_some hf
    refine hs_calli (va_runV (As := [.int (1 : Int32)]) (rest := []) ⟨hx, hb, hml, hown, hts⟩ (ctX12_codeAt l B D E v0 (1 : Int32) g _ h4) (cwV 1 hts (hs_gV (fun _ h => List.mem_cons_of_mem _ h) wq870 wq871 wq872 wq5 wq873) rfl rfl rfl (by decide +kernel) ⟨Nat.le_of_ble_eq_true rfl, Nat.le_of_ble_eq_true rfl⟩) (hs_preV (r := (RX12, TX12, 48)) hP hK h1 (by decide) rfl) rfl rfl hl.1 rfl (lv_room (Nat.le_of_ble_eq_true rfl)) dX12_calls_17 ⟨(Nat.le_of_ble_eq_true rfl), (Nat.le_of_ble_eq_true rfl)⟩) hS (fun H locs hP hS => ?_)
    refine lv_istore_n (lv' := [(1, .int r3), (0, .ref (B + v0))]) hx hb dX12_calls_20 rfl hl (by decide) rfl (fun ls hl => ?_)
    refine lv_aload_n hx hb dX12_calls_21 rfl (lv_at hl 1 rfl) ?_
    obtain ⟨h5, hf⟩ := hs_ck hf
    refine hs_geti (C := RX12) (T := TX12) (N := 48) hx hb hts (fun w h => List.mem_cons_of_mem _ (inlX12 w h)) hown hK.1 hP h5 (by decide) rfl 40 (by decide) (hts _ (List.mem_cons_of_mem _ wq859)) (fun _ h => h) rfl dX12_calls_22 ?_
    refine lv_iconst (v := 1) hx hb dX12_calls_25 (by decide) ?_
    refine lv_isub hx hb dX12_calls_26 ?_
    refine lv_istore_n (lv' := [(2, .int ((hs_I g2 v0 40) - (1 : Int32))), (1, .int r3), (0, .ref (B + v0))]) hx hb dX12_calls_27 rfl hl (by decide) rfl (fun ls hl => ?_)
    refine lv_aload_n hx hb dX12_calls_28 rfl (lv_at hl 2 rfl) ?_
    obtain ⟨h6, hf⟩ := hs_ck hf
    refine hs_getr (C := RX12) (T := TX12) (N := 48) hx hb hts (fun w h => List.mem_cons_of_mem _ (inlX12 w h)) hown hK.1 hP h5 (by decide) rfl 43 (by decide) (hts _ (List.mem_cons_of_mem _ wq154)) (fun _ h => h) rfl h6 dX12_calls_29 ?_
    refine lv_iload_n hx hb dX12_calls_32 rfl (lv_at hl 0 rfl) ?_
    refine lv_dup2_11 hx hb dX12_calls_33 rfl rfl ?_
    obtain ⟨h7, hf⟩ := hs_ck hf
    obtain ⟨h8, hf⟩ := hs_ck hf
    refine hs_iald hx hb hK.1 hP h7 h8 dX12_calls_34 ?_
    refine lv_aload_n hx hb dX12_calls_35 rfl (lv_at hl 2 rfl) ?_
    obtain ⟨h9, hf⟩ := hs_ck hf
    refine hs_getr (C := RX12) (T := TX12) (N := 48) hx hb hts (fun w h => List.mem_cons_of_mem _ (inlX12 w h)) hown hK.1 hP h5 (by decide) rfl 5 (by decide) (hts _ (List.mem_cons_of_mem _ wq123)) (fun _ h => h) rfl h9 dX12_calls_36 ?_
    refine lv_iload_n hx hb dX12_calls_39 rfl (lv_at hl 1 rfl) ?_
    obtain ⟨h10, hf⟩ := hs_ck hf
    obtain ⟨h11, hf⟩ := hs_ck hf
    refine hs_iald hx hb hK.1 hP h10 h11 dX12_calls_40 ?_
    refine lv_isub hx hb dX12_calls_41 ?_
    refine hs_iast hx hb hK.1 hP hS h7 h8 dX12_calls_42 (fun H locs hP hS => ?_)
    obtain ⟨g12, e13, hf⟩ := hs_bv_some hf
    replace e13 := Option.some.inj e13
    rw [e13] at hP
    have h14 : hs_kd g12 v0 = 10 := by rw [← e13]; exact h5
    have h15 : hs_kd g12 ((hs_R g2 v0 43) - 1) = 100 := by rw [← e13]; exact h7
    have h16 : hs_in ((hs_I g2 v0 40) - (1 : Int32)) (hs_ln g12 ((hs_R g2 v0 43) - 1)) = true := by rw [← e13]; exact h8
    have h17 : hs_kd g12 ((hs_R g2 v0 5) - 1) = 100 := by rw [← e13]; exact h10
    have h18 : hs_in r3 (hs_ln g12 ((hs_R g2 v0 5) - 1)) = true := by rw [← e13]; exact h11
    refine lv_aload_n hx hb dX12_calls_43 rfl (lv_at hl 2 rfl) ?_
    refine lv_iload_n hx hb dX12_calls_44 rfl (lv_at hl 1 rfl) ?_
    obtain ⟨g19, h21, hf⟩ := hs_bv_some hf
    refine hs_callv (va_runV (As := [.int r3]) (rest := []) ⟨hx, hb, hml, hown, hts⟩ (ctX12_enter l B D E v0 r3 g12 _ h21) (cwV 1 hts (hs_gV (fun _ h => List.mem_cons_of_mem _ h) wq862 wq863 wq864 wq5 wq865) rfl rfl rfl (by decide +kernel) ⟨Nat.le_of_ble_eq_true rfl, Nat.le_of_ble_eq_true rfl⟩) (hs_preV (r := (RX12, TX12, 48)) hP hK h14 (by decide) rfl) rfl rfl hl.1 rfl (lv_room (Nat.le_of_ble_eq_true rfl)) dX12_calls_45 ⟨(Nat.le_of_ble_eq_true rfl), (Nat.le_of_ble_eq_true rfl)⟩) hS (fun H locs hP hS => ?_)
    refine lv_iconst (v := 0) hx hb dX12_calls_48 (by decide) ?_
    refine lv_istore_n (lv' := [(3, .int (0 : Int32)), (2, .int ((hs_I g2 v0 40) - (1 : Int32))), (1, .int r3), (0, .ref (B + v0))]) hx hb dX12_calls_49 rfl hl (by decide) rfl (fun ls hl => ?_)
    obtain ⟨g47, h48, hf⟩ := hs_bv_some hf
    refine wX12_calls_50 hX (fun H locs ls hP hS hl => ?_) hs_N _ _ h48 _ _ _ hP hS (lv_sub hl [3, 2, 1, 0] rfl)
    exact hs_vret hx hb hr hlocks hK hP hS hf dX12_calls_100
  · replace hf := hs_t hf hc
    refine lv_aload_n hx hb dX12_calls_9 rfl (lv_at hl 0 rfl) ?_
    refine lv_iconst (v := 1) hx hb dX12_calls_10 (by decide) ?_
    refine hs_puti (C := RX12) (T := TX12) (N := 48) hx hb hts (fun w h => List.mem_cons_of_mem _ (inlX12 w h)) tyX12 tyX12_ok nmX12 hown hK.1 hP hS h1 (by decide) rfl 46 (by decide) (hts _ (List.mem_cons_of_mem _ wq860)) (fun _ h => h) (Or.inl rfl) (hs_01_nar (rfl)) (hs_01_fit (rfl)) rfl dX12_calls_11 (fun H locs hP hS => ?_)
    exact hs_vret hx hb hr hlocks hK hP hS hf dX12_calls_14

