theorem dX12_gives_0 : decode cX12_gives 0 = .ok (.iload_n 0, 1) := by decide +kernel
theorem dX12_gives_1 : decode cX12_gives 1 = .ok (.bipush 89, 2) := by decide +kernel
theorem dX12_gives_3 : decode cX12_gives 3 = .ok (.if_icmp .ne 5, 3) := by decide +kernel
theorem dX12_gives_6 : decode cX12_gives 6 = .ok (.iconst 2, 1) := by decide +kernel
theorem dX12_gives_7 : decode cX12_gives 7 = .ok (.ireturn, 1) := by decide +kernel
theorem dX12_gives_8 : decode cX12_gives 8 = .ok (.iload_n 0, 1) := by decide +kernel
theorem dX12_gives_9 : decode cX12_gives 9 = .ok (.ifCond .eq 49, 3) := by decide +kernel
theorem dX12_gives_12 : decode cX12_gives 12 = .ok (.iload_n 0, 1) := by decide +kernel
theorem dX12_gives_13 : decode cX12_gives 13 = .ok (.bipush 54, 2) := by decide +kernel
theorem dX12_gives_15 : decode cX12_gives 15 = .ok (.if_icmp .eq 43, 3) := by decide +kernel
theorem dX12_gives_18 : decode cX12_gives 18 = .ok (.iload_n 0, 1) := by decide +kernel
theorem dX12_gives_19 : decode cX12_gives 19 = .ok (.bipush 87, 2) := by decide +kernel
theorem dX12_gives_21 : decode cX12_gives 21 = .ok (.if_icmp .eq 37, 3) := by decide +kernel
theorem dX12_gives_24 : decode cX12_gives 24 = .ok (.iload_n 0, 1) := by decide +kernel
theorem dX12_gives_25 : decode cX12_gives 25 = .ok (.sipush 172, 3) := by decide +kernel
theorem dX12_gives_28 : decode cX12_gives 28 = .ok (.if_icmp .eq 30, 3) := by decide +kernel
theorem dX12_gives_31 : decode cX12_gives 31 = .ok (.iload_n 0, 1) := by decide +kernel
theorem dX12_gives_32 : decode cX12_gives 32 = .ok (.sipush 188, 3) := by decide +kernel
theorem dX12_gives_35 : decode cX12_gives 35 = .ok (.if_icmp .eq 23, 3) := by decide +kernel
theorem dX12_gives_38 : decode cX12_gives 38 = .ok (.iload_n 0, 1) := by decide +kernel
theorem dX12_gives_39 : decode cX12_gives 39 = .ok (.bipush 79, 2) := by decide +kernel
theorem dX12_gives_41 : decode cX12_gives 41 = .ok (.if_icmp .eq 17, 3) := by decide +kernel
theorem dX12_gives_44 : decode cX12_gives 44 = .ok (.iload_n 0, 1) := by decide +kernel
theorem dX12_gives_45 : decode cX12_gives 45 = .ok (.sipush 191, 3) := by decide +kernel
theorem dX12_gives_48 : decode cX12_gives 48 = .ok (.if_icmp .eq 10, 3) := by decide +kernel
theorem dX12_gives_51 : decode cX12_gives 51 = .ok (.iload_n 0, 1) := by decide +kernel
theorem dX12_gives_52 : decode cX12_gives 52 = .ok (.invokestatic 161, 3) := by decide +kernel
theorem dX12_gives_55 : decode cX12_gives 55 = .ok (.ifCond .eq 7, 3) := by decide +kernel
theorem dX12_gives_58 : decode cX12_gives 58 = .ok (.iconst 0, 1) := by decide +kernel
theorem dX12_gives_59 : decode cX12_gives 59 = .ok (.goto 4, 3) := by decide +kernel
theorem dX12_gives_62 : decode cX12_gives 62 = .ok (.iconst 1, 1) := by decide +kernel
theorem dX12_gives_63 : decode cX12_gives 63 = .ok (.ireturn, 1) := by decide +kernel
abbrev wcX12_gives : List Cond := .code yX12_gives cX12_gives 1 (some .int) :: wsL_law
def jX12_gives_58  (g : hs_S) : Option (Int32 × hs_S) :=
  some ((0 : Int32), g)
def fX12_gives (v0 : Int32) (g : hs_S) : Option (Int32 × hs_S) :=
  if v0 = (89 : Int32) then (
    some ((2 : Int32), g)
  ) else (
    if v0 = 0 then (
      jX12_gives_58 g
    ) else (
      if v0 = (54 : Int32) then (
        jX12_gives_58 g
      ) else (
        if v0 = (87 : Int32) then (
          jX12_gives_58 g
        ) else (
          if v0 = (172 : Int32) then (
            jX12_gives_58 g
          ) else (
            if v0 = (188 : Int32) then (
              jX12_gives_58 g
            ) else (
              if v0 = (79 : Int32) then (
                jX12_gives_58 g
              ) else (
                if v0 = (191 : Int32) then (
                  jX12_gives_58 g
                ) else (
                  hs_bd (fX12_isJump v0 g) fun r2 g1 =>
                  if r2 = 0 then (
                    some ((1 : Int32), g1)
                  ) else (
                    jX12_gives_58 g1
                  )
                )
              )
            )
          )
        )
      )
    )
  )
abbrev rmX12_gives : Room := { frames := 1, cells := 0, slots := 0, locals := 20 }
set_option maxHeartbeats 4000000 in
set_option maxRecDepth 100000 in
theorem wX12_gives_j58 {p : Program} {l : Launch} {e : Env} {s : State} {m : MethodId} {args : Array Value} {below : List Frame} {meth : Method} {c : Code} {B : Nat} {D : va_G} {E : Nat → ClassId} (hX : hs_cx cX12_gives (some .int) 1 RX12 wcX12_gives p s m args meth c D E) {o : Int32 × hs_S}     {g : hs_S} {H : Heap} {locs : List Loc} {ls : Array Slot} (hf : jX12_gives_58  g = some o) (hP : hs_P B D E g H) (hS : hs_Sx B s.heap H locs) (hl : lv_has ls 1 []) : W p l e rmX12_gives s m args below meth c H locs 0 0 (MQ below (hs_Qi B D E o) args s 0 0 (hs_F B)) (F0 m 58 ls []) := by
  obtain ⟨hx, hb, hr, hml, hown, hts, hlocks, hK⟩ := id hX
  unfold jX12_gives_58 at hf
  refine lv_iconst (v := 0) hx hb dX12_gives_58 (by decide) ?_
  refine lv_goto (tgt := 63) hx hb dX12_gives_59 (by decide) ?_
  exact hs_iret hx hb hr hlocks rfl hK hP hS hf dX12_gives_63

set_option maxHeartbeats 4000000 in
set_option maxRecDepth 100000 in
theorem ctX12_gives (l : Launch) (B : Nat) (D : va_G) (E : Nat → ClassId) (v0 : Int32) (g : hs_S) (o : Int32 × hs_S) (hf : fX12_gives v0 g = some o) : Met l yX12_gives wcX12_gives rmX12_gives (hs_Pc B D E g [.int v0]) (hs_Qi B D E o) (0) (0) (hs_F B) := by
  refine Met.ofW (cc := cX12_gives) (maxL := 1) (ret := (some .int)) (by decide) rfl ?_
  intro p e s m args below meth c s₁ Bd hml hv
  obtain ⟨rfl, hP, hK⟩ := hv
  have hx := Bd.exec
  have hb := Bd.bytes
  have hr := Bd.returns
  have hts := atoms_spec (ws := wcX12_gives) Bd.pre
  have hown : s.vm.findClass RX12 = some m.cls := findClass_of_methodNamed Bd.named
  have hlocks := Bd.notSynchronized
  have hS : hs_Sx B s.heap s.heap [] := va_S.rf
  have hX : hs_cx cX12_gives (some .int) 1 RX12 wcX12_gives p s m (List.toArray [.int v0]) meth c D E := ⟨hx, hb, hr, hml, hown, hts, hlocks, hK⟩
  have hl := lv_entry ([.int v0]) (n := 1) (Nat.le_of_ble_eq_true rfl)
  rw [lg_entry_eq]
  generalize (lg_sl ([.int v0]) ++ List.replicate (1 - (lg_sl ([.int v0])).length) Slot.unset).toArray = ls at hl ⊢
  have hl : lv_has ls 1 [(0, .int v0)] := hl
  have hP : hs_P B D E g s.heap := hP
  unfold fX12_gives at hf
  refine lv_iload_n hx hb dX12_gives_0 rfl (lv_at hl 0 rfl) ?_
  refine lv_bipush (v := 89) hx hb dX12_gives_1 (by decide) ?_
  refine lv_icmp_ne (tgt := 8) hx hb dX12_gives_3 (by decide) (fun hc => ?_) (fun hc => ?_)
  · replace hf := hs_f hf hc
    refine lv_iload_n hx hb dX12_gives_8 rfl (lv_at hl 0 rfl) ?_
    refine lv_if_eq (tgt := 58) hx hb dX12_gives_9 (by decide) (fun hc => ?_) (fun hc => ?_)
    · replace hf := hs_t hf hc
      exact wX12_gives_j58 hX hf hP hS (lv_sub hl [] rfl)
    · replace hf := hs_f hf hc
      refine lv_iload_n hx hb dX12_gives_12 rfl (lv_at hl 0 rfl) ?_
      refine lv_bipush (v := 54) hx hb dX12_gives_13 (by decide) ?_
      refine lv_icmp_eq (tgt := 58) hx hb dX12_gives_15 (by decide) (fun hc => ?_) (fun hc => ?_)
      · replace hf := hs_t hf hc
        exact wX12_gives_j58 hX hf hP hS (lv_sub hl [] rfl)
      · replace hf := hs_f hf hc
        refine lv_iload_n hx hb dX12_gives_18 rfl (lv_at hl 0 rfl) ?_
        refine lv_bipush (v := 87) hx hb dX12_gives_19 (by decide) ?_
        refine lv_icmp_eq (tgt := 58) hx hb dX12_gives_21 (by decide) (fun hc => ?_) (fun hc => ?_)
        · replace hf := hs_t hf hc
          exact wX12_gives_j58 hX hf hP hS (lv_sub hl [] rfl)
        · replace hf := hs_f hf hc
          refine lv_iload_n hx hb dX12_gives_24 rfl (lv_at hl 0 rfl) ?_
          refine lv_sipush (v := 172) hx hb dX12_gives_25 (by decide) ?_
          refine lv_icmp_eq (tgt := 58) hx hb dX12_gives_28 (by decide) (fun hc => ?_) (fun hc => ?_)
          · replace hf := hs_t hf hc
            exact wX12_gives_j58 hX hf hP hS (lv_sub hl [] rfl)
          · replace hf := hs_f hf hc
            refine lv_iload_n hx hb dX12_gives_31 rfl (lv_at hl 0 rfl) ?_
            refine lv_sipush (v := 188) hx hb dX12_gives_32 (by decide) ?_
            refine lv_icmp_eq (tgt := 58) hx hb dX12_gives_35 (by decide) (fun hc => ?_) (fun hc => ?_)
            · replace hf := hs_t hf hc
              exact wX12_gives_j58 hX hf hP hS (lv_sub hl [] rfl)
            · replace hf := hs_f hf hc
              refine lv_iload_n hx hb dX12_gives_38 rfl (lv_at hl 0 rfl) ?_
              refine lv_bipush (v := 79) hx hb dX12_gives_39 (by decide) ?_
              refine lv_icmp_eq (tgt := 58) hx hb dX12_gives_41 (by decide) (fun hc => ?_) (fun hc => ?_)
              · replace hf := hs_t hf hc
                exact wX12_gives_j58 hX hf hP hS (lv_sub hl [] rfl)
              · replace hf := hs_f hf hc
                refine lv_iload_n hx hb dX12_gives_44 rfl (lv_at hl 0 rfl) ?_
                refine lv_sipush (v := 191) hx hb dX12_gives_45 (by decide) ?_
                refine lv_icmp_eq (tgt := 58) hx hb dX12_gives_48 (by decide) (fun hc => ?_) (fun hc => ?_)
                · replace hf := hs_t hf hc
                  exact wX12_gives_j58 hX hf hP hS (lv_sub hl [] rfl)
                · replace hf := hs_f hf hc
                  refine lv_iload_n hx hb dX12_gives_51 rfl (lv_at hl 0 rfl) ?_
                  obtain ⟨r2, g1, h3, hf⟩ := hs_bd_some hf
                  refine hs_calli (va_runS (As := [.int v0]) (rest := []) ⟨hx, hb, hml, hown, hts⟩ (ctX12_isJump l B D E v0 g _ h3) (va_cwS 1 hts (hs_gS (fun _ h => List.mem_cons_of_mem _ h) wq430 wq431 wq5 wq432) rfl rfl rfl (by decide +kernel) ⟨Nat.le_of_ble_eq_true rfl, Nat.le_of_ble_eq_true rfl⟩) (hs_pre hP hK) rfl rfl hl.1 rfl (lv_room (Nat.le_of_ble_eq_true rfl)) dX12_gives_52 ⟨(Nat.le_of_ble_eq_true rfl), (Nat.le_of_ble_eq_true rfl)⟩) hS (fun H locs hP hS => ?_)
                  refine lv_if_eq (tgt := 62) hx hb dX12_gives_55 (by decide) (fun hc => ?_) (fun hc => ?_)
                  · replace hf := hs_t hf hc
                    refine lv_iconst (v := 1) hx hb dX12_gives_62 (by decide) ?_
                    exact hs_iret hx hb hr hlocks rfl hK hP hS hf dX12_gives_63
                  · replace hf := hs_f hf hc
                    exact wX12_gives_j58 hX hf hP hS (lv_sub hl [] rfl)
  · replace hf := hs_t hf hc
    refine lv_iconst (v := 2) hx hb dX12_gives_6 (by decide) ?_
    exact hs_iret hx hb hr hlocks rfl hK hP hS hf dX12_gives_7

theorem dX12_comes_0 : decode cX12_comes 0 = .ok (.sipush 2001, 3) := by decide +kernel
theorem dX12_comes_3 : decode cX12_comes 3 = .ok (.iload_n 1, 1) := by decide +kernel
theorem dX12_comes_4 : decode cX12_comes 4 = .ok (.imul, 1) := by decide +kernel
theorem dX12_comes_5 : decode cX12_comes 5 = .ok (.iload_n 2, 1) := by decide +kernel
theorem dX12_comes_6 : decode cX12_comes 6 = .ok (.iadd, 1) := by decide +kernel
theorem dX12_comes_7 : decode cX12_comes 7 = .ok (.istore 4, 2) := by decide +kernel
theorem dX12_comes_9 : decode cX12_comes 9 = .ok (.aload_n 0, 1) := by decide +kernel
theorem dX12_comes_10 : decode cX12_comes 10 = .ok (.getfield 42, 3) := by decide +kernel
theorem dX12_comes_13 : decode cX12_comes 13 = .ok (.iload 4, 2) := by decide +kernel
theorem dX12_comes_15 : decode cX12_comes 15 = .ok (.iaload, 1) := by decide +kernel
theorem dX12_comes_16 : decode cX12_comes 16 = .ok (.ifCond .lt 16, 3) := by decide +kernel
theorem dX12_comes_19 : decode cX12_comes 19 = .ok (.aload_n 0, 1) := by decide +kernel
theorem dX12_comes_20 : decode cX12_comes 20 = .ok (.getfield 42, 3) := by decide +kernel
theorem dX12_comes_23 : decode cX12_comes 23 = .ok (.iload 4, 2) := by decide +kernel
theorem dX12_comes_25 : decode cX12_comes 25 = .ok (.iaload, 1) := by decide +kernel
theorem dX12_comes_26 : decode cX12_comes 26 = .ok (.iload_n 3, 1) := by decide +kernel
theorem dX12_comes_27 : decode cX12_comes 27 = .ok (.if_icmp .eq 5, 3) := by decide +kernel
theorem dX12_comes_30 : decode cX12_comes 30 = .ok (.iconst 0, 1) := by decide +kernel
theorem dX12_comes_31 : decode cX12_comes 31 = .ok (.ireturn, 1) := by decide +kernel
theorem dX12_comes_32 : decode cX12_comes 32 = .ok (.aload_n 0, 1) := by decide +kernel
theorem dX12_comes_33 : decode cX12_comes 33 = .ok (.getfield 42, 3) := by decide +kernel
theorem dX12_comes_36 : decode cX12_comes 36 = .ok (.iload 4, 2) := by decide +kernel
theorem dX12_comes_38 : decode cX12_comes 38 = .ok (.iload_n 3, 1) := by decide +kernel
theorem dX12_comes_39 : decode cX12_comes 39 = .ok (.iastore, 1) := by decide +kernel
theorem dX12_comes_40 : decode cX12_comes 40 = .ok (.iconst 1, 1) := by decide +kernel
theorem dX12_comes_41 : decode cX12_comes 41 = .ok (.ireturn, 1) := by decide +kernel
abbrev wcX12_comes : List Cond := .code yX12_comes cX12_comes 5 (some .boolean) :: wsL_law
def jX12_comes_32 (v0 : Nat) (v3 : Int32) (v4 : Int32) (g : hs_S) : Option (Int32 × hs_S) :=
  if hs_kd g v0 = 10 then
  if ¬ (hs_R g v0 13) = 0 then
  if hs_kd g ((hs_R g v0 13) - 1) = 100 then
  if hs_in v4 (hs_ln g ((hs_R g v0 13) - 1)) = true then
  some ((1 : Int32), (hs_wI g ((hs_R g v0 13) - 1) v4.toNatClampNeg v3))
  else none else none else none else none
def fX12_comes (v0 : Nat) (v1 : Int32) (v2 : Int32) (v3 : Int32) (g : hs_S) : Option (Int32 × hs_S) :=
  if hs_kd g v0 = 10 then
  if ¬ (hs_R g v0 13) = 0 then
  if hs_kd g ((hs_R g v0 13) - 1) = 100 then
  if hs_in (((2001 : Int32) * v1) + v2) (hs_ln g ((hs_R g v0 13) - 1)) = true then
  if (hs_I g ((hs_R g v0 13) - 1) (((2001 : Int32) * v1) + v2).toNatClampNeg) < 0 then (
    jX12_comes_32 v0 v3 (((2001 : Int32) * v1) + v2) g
  ) else (
    if (hs_I g ((hs_R g v0 13) - 1) (((2001 : Int32) * v1) + v2).toNatClampNeg) = v3 then (
      jX12_comes_32 v0 v3 (((2001 : Int32) * v1) + v2) g
    ) else (
      some ((0 : Int32), g)
    )
  )
  else none else none else none else none
abbrev rmX12_comes : Room := { frames := 0, cells := 0, slots := 0, locals := 0 }
set_option maxHeartbeats 4000000 in
set_option maxRecDepth 100000 in
theorem wX12_comes_j32 {p : Program} {l : Launch} {e : Env} {s : State} {m : MethodId} {args : Array Value} {below : List Frame} {meth : Method} {c : Code} {B : Nat} {D : va_G} {E : Nat → ClassId} (hX : hs_cx cX12_comes (some .boolean) 5 RX12 wcX12_comes p s m args meth c D E) {o : Int32 × hs_S}  {v0 : Nat} {v3 : Int32} {v4 : Int32}   {g : hs_S} {H : Heap} {locs : List Loc} {ls : Array Slot} (hf : jX12_comes_32 v0 v3 v4 g = some o) (hP : hs_P B D E g H) (hS : hs_Sx B s.heap H locs) (hl : lv_has ls 5 [(0, .ref (B + v0)), (3, .int v3), (4, .int v4)]) : W p l e rmX12_comes s m args below meth c H locs 0 0 (MQ below (hs_Qi B D E o) args s 0 0 (hs_F B)) (F0 m 32 ls []) := by
  obtain ⟨hx, hb, hr, hml, hown, hts, hlocks, hK⟩ := id hX
  unfold jX12_comes_32 at hf
  refine lv_aload_n hx hb dX12_comes_32 rfl (lv_at hl 0 rfl) ?_
  obtain ⟨h5, hf⟩ := hs_ck hf
  obtain ⟨h6, hf⟩ := hs_ck hf
  refine hs_getr (C := RX12) (T := TX12) (N := 48) hx hb hts (fun w h => List.mem_cons_of_mem _ (inlX12 w h)) hown hK.1 hP h5 (by decide) rfl 13 (by decide) (hts _ (List.mem_cons_of_mem _ wq132)) (fun _ h => h) rfl h6 dX12_comes_33 ?_
  refine lv_iload hx hb dX12_comes_36 (lv_at hl 2 rfl) ?_
  refine lv_iload_n hx hb dX12_comes_38 rfl (lv_at hl 1 rfl) ?_
  obtain ⟨h7, hf⟩ := hs_ck hf
  obtain ⟨h8, hf⟩ := hs_ck hf
  refine hs_iast hx hb hK.1 hP hS h7 h8 dX12_comes_39 (fun H locs hP hS => ?_)
  refine lv_iconst (v := 1) hx hb dX12_comes_40 (by decide) ?_
  exact hs_iret hx hb hr hlocks (hs_01_nar (rfl)) hK hP hS hf dX12_comes_41

set_option maxHeartbeats 4000000 in
set_option maxRecDepth 100000 in
theorem ctX12_comes (l : Launch) (B : Nat) (D : va_G) (E : Nat → ClassId) (v0 : Nat) (v1 : Int32) (v2 : Int32) (v3 : Int32) (g : hs_S) (o : Int32 × hs_S) (hf : fX12_comes v0 v1 v2 v3 g = some o) : Met l yX12_comes wcX12_comes rmX12_comes (hs_Pc B D E g [.ref (B + v0), .int v1, .int v2, .int v3]) (hs_Qi B D E o) (0) (0) (hs_F B) := by
  refine Met.ofW (cc := cX12_comes) (maxL := 5) (ret := (some .boolean)) (by decide) rfl ?_
  intro p e s m args below meth c s₁ Bd hml hv
  obtain ⟨rfl, hP, hK⟩ := hv
  have hx := Bd.exec
  have hb := Bd.bytes
  have hr := Bd.returns
  have hts := atoms_spec (ws := wcX12_comes) Bd.pre
  have hown : s.vm.findClass RX12 = some m.cls := findClass_of_methodNamed Bd.named
  have hlocks := Bd.notSynchronized
  have hS : hs_Sx B s.heap s.heap [] := va_S.rf
  have hX : hs_cx cX12_comes (some .boolean) 5 RX12 wcX12_comes p s m (List.toArray [.ref (B + v0), .int v1, .int v2, .int v3]) meth c D E := ⟨hx, hb, hr, hml, hown, hts, hlocks, hK⟩
  have hl := lv_entry ([.ref (B + v0), .int v1, .int v2, .int v3]) (n := 5) (Nat.le_of_ble_eq_true rfl)
  rw [lg_entry_eq]
  generalize (lg_sl ([.ref (B + v0), .int v1, .int v2, .int v3]) ++ List.replicate (5 - (lg_sl ([.ref (B + v0), .int v1, .int v2, .int v3])).length) Slot.unset).toArray = ls at hl ⊢
  have hl : lv_has ls 5 [(0, .ref (B + v0)), (1, .int v1), (2, .int v2), (3, .int v3)] := hl
  have hP : hs_P B D E g s.heap := hP
  unfold fX12_comes at hf
  refine lv_sipush (v := 2001) hx hb dX12_comes_0 (by decide) ?_
  refine lv_iload_n hx hb dX12_comes_3 rfl (lv_at hl 1 rfl) ?_
  refine lv_imul hx hb dX12_comes_4 ?_
  refine lv_iload_n hx hb dX12_comes_5 rfl (lv_at hl 2 rfl) ?_
  refine lv_iadd hx hb dX12_comes_6 ?_
  refine lv_istore (lv' := [(4, .int (((2001 : Int32) * v1) + v2)), (0, .ref (B + v0)), (1, .int v1), (2, .int v2), (3, .int v3)]) hx hb dX12_comes_7 hl (by decide) rfl (fun ls hl => ?_)
  refine lv_aload_n hx hb dX12_comes_9 rfl (lv_at hl 1 rfl) ?_
  obtain ⟨h1, hf⟩ := hs_ck hf
  obtain ⟨h2, hf⟩ := hs_ck hf
  refine hs_getr (C := RX12) (T := TX12) (N := 48) hx hb hts (fun w h => List.mem_cons_of_mem _ (inlX12 w h)) hown hK.1 hP h1 (by decide) rfl 13 (by decide) (hts _ (List.mem_cons_of_mem _ wq132)) (fun _ h => h) rfl h2 dX12_comes_10 ?_
  refine lv_iload hx hb dX12_comes_13 (lv_at hl 0 rfl) ?_
  obtain ⟨h3, hf⟩ := hs_ck hf
  obtain ⟨h4, hf⟩ := hs_ck hf
  refine hs_iald hx hb hK.1 hP h3 h4 dX12_comes_15 ?_
  refine lv_if_lt (tgt := 32) hx hb dX12_comes_16 (by decide) (fun hc => ?_) (fun hc => ?_)
  · replace hf := hs_t hf hc
    exact wX12_comes_j32 hX hf hP hS (lv_sub hl [1, 4, 0] rfl)
  · replace hf := hs_f hf hc
    refine lv_aload_n hx hb dX12_comes_19 rfl (lv_at hl 1 rfl) ?_
    refine hs_getr (C := RX12) (T := TX12) (N := 48) hx hb hts (fun w h => List.mem_cons_of_mem _ (inlX12 w h)) hown hK.1 hP h1 (by decide) rfl 13 (by decide) (hts _ (List.mem_cons_of_mem _ wq132)) (fun _ h => h) rfl h2 dX12_comes_20 ?_
    refine lv_iload hx hb dX12_comes_23 (lv_at hl 0 rfl) ?_
    refine hs_iald hx hb hK.1 hP h3 h4 dX12_comes_25 ?_
    refine lv_iload_n hx hb dX12_comes_26 rfl (lv_at hl 4 rfl) ?_
    refine lv_icmp_eq (tgt := 32) hx hb dX12_comes_27 (by decide) (fun hc => ?_) (fun hc => ?_)
    · replace hf := hs_t hf hc
      exact wX12_comes_j32 hX hf hP hS (lv_sub hl [1, 4, 0] rfl)
    · replace hf := hs_f hf hc
      refine lv_iconst (v := 0) hx hb dX12_comes_30 (by decide) ?_
      exact hs_iret hx hb hr hlocks (hs_01_nar (rfl)) hK hP hS hf dX12_comes_31

theorem dX12_goesOn_0 : decode cX12_goesOn 0 = .ok (.sipush 2001, 3) := by decide +kernel
theorem dX12_goesOn_3 : decode cX12_goesOn 3 = .ok (.iload_n 1, 1) := by decide +kernel
theorem dX12_goesOn_4 : decode cX12_goesOn 4 = .ok (.imul, 1) := by decide +kernel
theorem dX12_goesOn_5 : decode cX12_goesOn 5 = .ok (.iload_n 2, 1) := by decide +kernel
theorem dX12_goesOn_6 : decode cX12_goesOn 6 = .ok (.iadd, 1) := by decide +kernel
theorem dX12_goesOn_7 : decode cX12_goesOn 7 = .ok (.istore_n 3, 1) := by decide +kernel
theorem dX12_goesOn_8 : decode cX12_goesOn 8 = .ok (.aload_n 0, 1) := by decide +kernel
theorem dX12_goesOn_9 : decode cX12_goesOn 9 = .ok (.getfield 66, 3) := by decide +kernel
theorem dX12_goesOn_12 : decode cX12_goesOn 12 = .ok (.iload_n 3, 1) := by decide +kernel
theorem dX12_goesOn_13 : decode cX12_goesOn 13 = .ok (.iaload, 1) := by decide +kernel
theorem dX12_goesOn_14 : decode cX12_goesOn 14 = .ok (.istore 4, 2) := by decide +kernel
theorem dX12_goesOn_16 : decode cX12_goesOn 16 = .ok (.aload_n 0, 1) := by decide +kernel
theorem dX12_goesOn_17 : decode cX12_goesOn 17 = .ok (.getfield 42, 3) := by decide +kernel
theorem dX12_goesOn_20 : decode cX12_goesOn 20 = .ok (.iload_n 3, 1) := by decide +kernel
theorem dX12_goesOn_21 : decode cX12_goesOn 21 = .ok (.iaload, 1) := by decide +kernel
theorem dX12_goesOn_22 : decode cX12_goesOn 22 = .ok (.aload_n 0, 1) := by decide +kernel
theorem dX12_goesOn_23 : decode cX12_goesOn 23 = .ok (.iload 4, 2) := by decide +kernel
theorem dX12_goesOn_25 : decode cX12_goesOn 25 = .ok (.aload_n 0, 1) := by decide +kernel
theorem dX12_goesOn_26 : decode cX12_goesOn 26 = .ok (.getfield 66, 3) := by decide +kernel
theorem dX12_goesOn_29 : decode cX12_goesOn 29 = .ok (.iload_n 3, 1) := by decide +kernel
theorem dX12_goesOn_30 : decode cX12_goesOn 30 = .ok (.iconst 1, 1) := by decide +kernel
theorem dX12_goesOn_31 : decode cX12_goesOn 31 = .ok (.iadd, 1) := by decide +kernel
theorem dX12_goesOn_32 : decode cX12_goesOn 32 = .ok (.iaload, 1) := by decide +kernel
theorem dX12_goesOn_33 : decode cX12_goesOn 33 = .ok (.invokevirtual 175, 3) := by decide +kernel
theorem dX12_goesOn_36 : decode cX12_goesOn 36 = .ok (.isub, 1) := by decide +kernel
theorem dX12_goesOn_37 : decode cX12_goesOn 37 = .ok (.istore 5, 2) := by decide +kernel
theorem dX12_goesOn_39 : decode cX12_goesOn 39 = .ok (.iload 5, 2) := by decide +kernel
theorem dX12_goesOn_41 : decode cX12_goesOn 41 = .ok (.iload 4, 2) := by decide +kernel
theorem dX12_goesOn_43 : decode cX12_goesOn 43 = .ok (.invokestatic 178, 3) := by decide +kernel
theorem dX12_goesOn_46 : decode cX12_goesOn 46 = .ok (.iadd, 1) := by decide +kernel
theorem dX12_goesOn_47 : decode cX12_goesOn 47 = .ok (.istore 6, 2) := by decide +kernel
theorem dX12_goesOn_49 : decode cX12_goesOn 49 = .ok (.iload_n 2, 1) := by decide +kernel
theorem dX12_goesOn_50 : decode cX12_goesOn 50 = .ok (.iload 4, 2) := by decide +kernel
theorem dX12_goesOn_52 : decode cX12_goesOn 52 = .ok (.invokestatic 120, 3) := by decide +kernel
theorem dX12_goesOn_55 : decode cX12_goesOn 55 = .ok (.iadd, 1) := by decide +kernel
theorem dX12_goesOn_56 : decode cX12_goesOn 56 = .ok (.istore 7, 2) := by decide +kernel
theorem dX12_goesOn_58 : decode cX12_goesOn 58 = .ok (.iload 4, 2) := by decide +kernel
theorem dX12_goesOn_60 : decode cX12_goesOn 60 = .ok (.sipush 172, 3) := by decide +kernel
theorem dX12_goesOn_63 : decode cX12_goesOn 63 = .ok (.if_icmp .eq 31, 3) := by decide +kernel
theorem dX12_goesOn_66 : decode cX12_goesOn 66 = .ok (.iload 4, 2) := by decide +kernel
theorem dX12_goesOn_68 : decode cX12_goesOn 68 = .ok (.sipush 191, 3) := by decide +kernel
theorem dX12_goesOn_71 : decode cX12_goesOn 71 = .ok (.if_icmp .eq 23, 3) := by decide +kernel
theorem dX12_goesOn_74 : decode cX12_goesOn 74 = .ok (.iload 4, 2) := by decide +kernel
theorem dX12_goesOn_76 : decode cX12_goesOn 76 = .ok (.sipush 167, 3) := by decide +kernel
theorem dX12_goesOn_79 : decode cX12_goesOn 79 = .ok (.if_icmp .eq 15, 3) := by decide +kernel
theorem dX12_goesOn_82 : decode cX12_goesOn 82 = .ok (.iload 4, 2) := by decide +kernel
theorem dX12_goesOn_84 : decode cX12_goesOn 84 = .ok (.sipush 168, 3) := by decide +kernel
theorem dX12_goesOn_87 : decode cX12_goesOn 87 = .ok (.if_icmp .eq 7, 3) := by decide +kernel
theorem dX12_goesOn_90 : decode cX12_goesOn 90 = .ok (.iconst 1, 1) := by decide +kernel
theorem dX12_goesOn_91 : decode cX12_goesOn 91 = .ok (.goto 4, 3) := by decide +kernel
theorem dX12_goesOn_94 : decode cX12_goesOn 94 = .ok (.iconst 0, 1) := by decide +kernel
theorem dX12_goesOn_95 : decode cX12_goesOn 95 = .ok (.istore 8, 2) := by decide +kernel
theorem dX12_goesOn_97 : decode cX12_goesOn 97 = .ok (.iload 5, 2) := by decide +kernel
theorem dX12_goesOn_99 : decode cX12_goesOn 99 = .ok (.ifCond .lt 26, 3) := by decide +kernel
theorem dX12_goesOn_102 : decode cX12_goesOn 102 = .ok (.iload 6, 2) := by decide +kernel
theorem dX12_goesOn_104 : decode cX12_goesOn 104 = .ok (.bipush 20, 2) := by decide +kernel
theorem dX12_goesOn_106 : decode cX12_goesOn 106 = .ok (.if_icmp .gt 19, 3) := by decide +kernel
theorem dX12_goesOn_109 : decode cX12_goesOn 109 = .ok (.iload 8, 2) := by decide +kernel
theorem dX12_goesOn_111 : decode cX12_goesOn 111 = .ok (.ifCond .eq 27, 3) := by decide +kernel
theorem dX12_goesOn_114 : decode cX12_goesOn 114 = .ok (.iload 7, 2) := by decide +kernel
theorem dX12_goesOn_116 : decode cX12_goesOn 116 = .ok (.aload_n 0, 1) := by decide +kernel
theorem dX12_goesOn_117 : decode cX12_goesOn 117 = .ok (.getfield 54, 3) := by decide +kernel
theorem dX12_goesOn_120 : decode cX12_goesOn 120 = .ok (.iload_n 1, 1) := by decide +kernel
theorem dX12_goesOn_121 : decode cX12_goesOn 121 = .ok (.iaload, 1) := by decide +kernel
theorem dX12_goesOn_122 : decode cX12_goesOn 122 = .ok (.if_icmp .ne 16, 3) := by decide +kernel
theorem dX12_goesOn_125 : decode cX12_goesOn 125 = .ok (.aload_n 0, 1) := by decide +kernel
theorem dX12_goesOn_126 : decode cX12_goesOn 126 = .ok (.aload_n 0, 1) := by decide +kernel
theorem dX12_goesOn_127 : decode cX12_goesOn 127 = .ok (.getfield 57, 3) := by decide +kernel
theorem dX12_goesOn_130 : decode cX12_goesOn 130 = .ok (.iload_n 1, 1) := by decide +kernel
theorem dX12_goesOn_131 : decode cX12_goesOn 131 = .ok (.iaload, 1) := by decide +kernel
theorem dX12_goesOn_132 : decode cX12_goesOn 132 = .ok (.iload_n 2, 1) := by decide +kernel
theorem dX12_goesOn_133 : decode cX12_goesOn 133 = .ok (.iadd, 1) := by decide +kernel
theorem dX12_goesOn_134 : decode cX12_goesOn 134 = .ok (.invokevirtual 141, 3) := by decide +kernel
theorem dX12_goesOn_137 : decode cX12_goesOn 137 = .ok (.ireturn, 1) := by decide +kernel
theorem dX12_goesOn_138 : decode cX12_goesOn 138 = .ok (.iload 8, 2) := by decide +kernel
theorem dX12_goesOn_140 : decode cX12_goesOn 140 = .ok (.ifCond .eq 29, 3) := by decide +kernel
theorem dX12_goesOn_143 : decode cX12_goesOn 143 = .ok (.aload_n 0, 1) := by decide +kernel
theorem dX12_goesOn_144 : decode cX12_goesOn 144 = .ok (.iload_n 1, 1) := by decide +kernel
theorem dX12_goesOn_145 : decode cX12_goesOn 145 = .ok (.iload 7, 2) := by decide +kernel
theorem dX12_goesOn_147 : decode cX12_goesOn 147 = .ok (.iload 6, 2) := by decide +kernel
theorem dX12_goesOn_149 : decode cX12_goesOn 149 = .ok (.invokevirtual 181, 3) := by decide +kernel
theorem dX12_goesOn_152 : decode cX12_goesOn 152 = .ok (.ifCond .ne 17, 3) := by decide +kernel
theorem dX12_goesOn_155 : decode cX12_goesOn 155 = .ok (.aload_n 0, 1) := by decide +kernel
theorem dX12_goesOn_156 : decode cX12_goesOn 156 = .ok (.aload_n 0, 1) := by decide +kernel
theorem dX12_goesOn_157 : decode cX12_goesOn 157 = .ok (.getfield 57, 3) := by decide +kernel
theorem dX12_goesOn_160 : decode cX12_goesOn 160 = .ok (.iload_n 1, 1) := by decide +kernel
theorem dX12_goesOn_161 : decode cX12_goesOn 161 = .ok (.iaload, 1) := by decide +kernel
theorem dX12_goesOn_162 : decode cX12_goesOn 162 = .ok (.iload 7, 2) := by decide +kernel
theorem dX12_goesOn_164 : decode cX12_goesOn 164 = .ok (.iadd, 1) := by decide +kernel
theorem dX12_goesOn_165 : decode cX12_goesOn 165 = .ok (.invokevirtual 141, 3) := by decide +kernel
theorem dX12_goesOn_168 : decode cX12_goesOn 168 = .ok (.ireturn, 1) := by decide +kernel
theorem dX12_goesOn_169 : decode cX12_goesOn 169 = .ok (.iload 4, 2) := by decide +kernel
theorem dX12_goesOn_171 : decode cX12_goesOn 171 = .ok (.invokestatic 161, 3) := by decide +kernel
theorem dX12_goesOn_174 : decode cX12_goesOn 174 = .ok (.ifCond .eq 53, 3) := by decide +kernel
theorem dX12_goesOn_177 : decode cX12_goesOn 177 = .ok (.iload 4, 2) := by decide +kernel
theorem dX12_goesOn_179 : decode cX12_goesOn 179 = .ok (.iload_n 2, 1) := by decide +kernel
theorem dX12_goesOn_180 : decode cX12_goesOn 180 = .ok (.aload_n 0, 1) := by decide +kernel
theorem dX12_goesOn_181 : decode cX12_goesOn 181 = .ok (.getfield 66, 3) := by decide +kernel
theorem dX12_goesOn_184 : decode cX12_goesOn 184 = .ok (.iload_n 3, 1) := by decide +kernel
theorem dX12_goesOn_185 : decode cX12_goesOn 185 = .ok (.iconst 1, 1) := by decide +kernel
theorem dX12_goesOn_186 : decode cX12_goesOn 186 = .ok (.iadd, 1) := by decide +kernel
theorem dX12_goesOn_187 : decode cX12_goesOn 187 = .ok (.iaload, 1) := by decide +kernel
theorem dX12_goesOn_188 : decode cX12_goesOn 188 = .ok (.aload_n 0, 1) := by decide +kernel
theorem dX12_goesOn_189 : decode cX12_goesOn 189 = .ok (.getfield 66, 3) := by decide +kernel
theorem dX12_goesOn_192 : decode cX12_goesOn 192 = .ok (.iload_n 3, 1) := by decide +kernel
theorem dX12_goesOn_193 : decode cX12_goesOn 193 = .ok (.iconst 2, 1) := by decide +kernel
theorem dX12_goesOn_194 : decode cX12_goesOn 194 = .ok (.iadd, 1) := by decide +kernel
theorem dX12_goesOn_195 : decode cX12_goesOn 195 = .ok (.iaload, 1) := by decide +kernel
theorem dX12_goesOn_196 : decode cX12_goesOn 196 = .ok (.invokestatic 165, 3) := by decide +kernel
theorem dX12_goesOn_199 : decode cX12_goesOn 199 = .ok (.istore 9, 2) := by decide +kernel
theorem dX12_goesOn_201 : decode cX12_goesOn 201 = .ok (.aload_n 0, 1) := by decide +kernel
theorem dX12_goesOn_202 : decode cX12_goesOn 202 = .ok (.iload_n 1, 1) := by decide +kernel
theorem dX12_goesOn_203 : decode cX12_goesOn 203 = .ok (.iload 9, 2) := by decide +kernel
theorem dX12_goesOn_205 : decode cX12_goesOn 205 = .ok (.iload 6, 2) := by decide +kernel
theorem dX12_goesOn_207 : decode cX12_goesOn 207 = .ok (.invokevirtual 181, 3) := by decide +kernel
theorem dX12_goesOn_210 : decode cX12_goesOn 210 = .ok (.ifCond .ne 17, 3) := by decide +kernel
theorem dX12_goesOn_213 : decode cX12_goesOn 213 = .ok (.aload_n 0, 1) := by decide +kernel
theorem dX12_goesOn_214 : decode cX12_goesOn 214 = .ok (.aload_n 0, 1) := by decide +kernel
theorem dX12_goesOn_215 : decode cX12_goesOn 215 = .ok (.getfield 57, 3) := by decide +kernel
theorem dX12_goesOn_218 : decode cX12_goesOn 218 = .ok (.iload_n 1, 1) := by decide +kernel
theorem dX12_goesOn_219 : decode cX12_goesOn 219 = .ok (.iaload, 1) := by decide +kernel
theorem dX12_goesOn_220 : decode cX12_goesOn 220 = .ok (.iload 9, 2) := by decide +kernel
theorem dX12_goesOn_222 : decode cX12_goesOn 222 = .ok (.iadd, 1) := by decide +kernel
theorem dX12_goesOn_223 : decode cX12_goesOn 223 = .ok (.invokevirtual 141, 3) := by decide +kernel
theorem dX12_goesOn_226 : decode cX12_goesOn 226 = .ok (.ireturn, 1) := by decide +kernel
theorem dX12_goesOn_227 : decode cX12_goesOn 227 = .ok (.iconst 0, 1) := by decide +kernel
theorem dX12_goesOn_228 : decode cX12_goesOn 228 = .ok (.ireturn, 1) := by decide +kernel
abbrev wcX12_goesOn : List Cond := .code yX12_goesOn cX12_goesOn 10 (some .int) :: wsL_law
def jX12_goesOn_125 (v0 : Nat) (v1 : Int32) (v2 : Int32) (g : hs_S) : Option (Int32 × hs_S) :=
  if hs_kd g v0 = 10 then
  if ¬ (hs_R g v0 18) = 0 then
  if hs_kd g ((hs_R g v0 18) - 1) = 100 then
  if hs_in v1 (hs_ln g ((hs_R g v0 18) - 1)) = true then
  hs_bd (fX12_wrong v0 ((hs_I g ((hs_R g v0 18) - 1) v1.toNatClampNeg) + v2) g) fun r23 g22 =>
  some (r23, g22)
  else none else none else none else none
def jX12_goesOn_169 (v0 : Nat) (v1 : Int32) (v2 : Int32) (v3 : Int32) (v4 : Int32) (v6 : Int32) (g : hs_S) : Option (Int32 × hs_S) :=
  hs_bd (fX12_isJump v4 g) fun r26 g25 =>
  if r26 = 0 then (
    some ((0 : Int32), g25)
  ) else (
    if hs_kd g25 v0 = 10 then
    if ¬ (hs_R g25 v0 21) = 0 then
    if hs_kd g25 ((hs_R g25 v0 21) - 1) = 100 then
    if hs_in (v3 + (1 : Int32)) (hs_ln g25 ((hs_R g25 v0 21) - 1)) = true then
    if hs_in (v3 + (2 : Int32)) (hs_ln g25 ((hs_R g25 v0 21) - 1)) = true then
    hs_bd (fX12_target v4 v2 (hs_I g25 ((hs_R g25 v0 21) - 1) (v3 + (1 : Int32)).toNatClampNeg) (hs_I g25 ((hs_R g25 v0 21) - 1) (v3 + (2 : Int32)).toNatClampNeg) g25) fun r34 g33 =>
    if hs_kd g33 v0 = 10 then
    hs_bd (fX12_comes v0 v1 r34 v6 g33) fun r38 g37 =>
    if r38 = 0 then (
      if hs_kd g37 v0 = 10 then
      if ¬ (hs_R g37 v0 18) = 0 then
      if hs_kd g37 ((hs_R g37 v0 18) - 1) = 100 then
      if hs_in v1 (hs_ln g37 ((hs_R g37 v0 18) - 1)) = true then
      hs_bd (fX12_wrong v0 ((hs_I g37 ((hs_R g37 v0 18) - 1) v1.toNatClampNeg) + r34) g37) fun r45 g44 =>
      some (r45, g44)
      else none else none else none else none
    ) else (
      some ((0 : Int32), g37)
    )
    else none else none else none else none else none else none
  )
def jX12_goesOn_138 (v0 : Nat) (v1 : Int32) (v2 : Int32) (v3 : Int32) (v4 : Int32) (v6 : Int32) (v7 : Int32) (v8 : Int32) (g : hs_S) : Option (Int32 × hs_S) :=
  if v8 = 0 then (
    jX12_goesOn_169 v0 v1 v2 v3 v4 v6 g
  ) else (
    if hs_kd g v0 = 10 then
    hs_bd (fX12_comes v0 v1 v7 v6 g) fun r49 g48 =>
    if r49 = 0 then (
      if hs_kd g48 v0 = 10 then
      if ¬ (hs_R g48 v0 18) = 0 then
      if hs_kd g48 ((hs_R g48 v0 18) - 1) = 100 then
      if hs_in v1 (hs_ln g48 ((hs_R g48 v0 18) - 1)) = true then
      hs_bd (fX12_wrong v0 ((hs_I g48 ((hs_R g48 v0 18) - 1) v1.toNatClampNeg) + v7) g48) fun r56 g55 =>
      some (r56, g55)
      else none else none else none else none
    ) else (
      jX12_goesOn_169 v0 v1 v2 v3 v4 v6 g48
    )
    else none
  )
def jX12_goesOn_95 (v0 : Nat) (v1 : Int32) (v2 : Int32) (v3 : Int32) (v4 : Int32) (v5 : Int32) (v6 : Int32) (v7 : Int32) (s0 : Int32) (g : hs_S) : Option (Int32 × hs_S) :=
  if v5 < 0 then (
    jX12_goesOn_125 v0 v1 v2 g
  ) else (
    if (20 : Int32) < v6 then (
      jX12_goesOn_125 v0 v1 v2 g
    ) else (
      if s0 = 0 then (
        jX12_goesOn_138 v0 v1 v2 v3 v4 v6 v7 s0 g
      ) else (
        if hs_kd g v0 = 10 then
        if ¬ (hs_R g v0 17) = 0 then
        if hs_kd g ((hs_R g v0 17) - 1) = 100 then
        if hs_in v1 (hs_ln g ((hs_R g v0 17) - 1)) = true then
        if v7 = (hs_I g ((hs_R g v0 17) - 1) v1.toNatClampNeg) then (
          jX12_goesOn_125 v0 v1 v2 g
        ) else (
          jX12_goesOn_138 v0 v1 v2 v3 v4 v6 v7 s0 g
        )
        else none else none else none else none
      )
    )
  )
def jX12_goesOn_94 (v0 : Nat) (v1 : Int32) (v2 : Int32) (v3 : Int32) (v4 : Int32) (v5 : Int32) (v6 : Int32) (v7 : Int32) (g : hs_S) : Option (Int32 × hs_S) :=
  jX12_goesOn_95 v0 v1 v2 v3 v4 v5 v6 v7 (0 : Int32) g
def fX12_goesOn (v0 : Nat) (v1 : Int32) (v2 : Int32) (g : hs_S) : Option (Int32 × hs_S) :=
  if hs_kd g v0 = 10 then
  if ¬ (hs_R g v0 21) = 0 then
  if hs_kd g ((hs_R g v0 21) - 1) = 100 then
  if hs_in (((2001 : Int32) * v1) + v2) (hs_ln g ((hs_R g v0 21) - 1)) = true then
  if ¬ (hs_R g v0 13) = 0 then
  if hs_kd g ((hs_R g v0 13) - 1) = 100 then
  if hs_in (((2001 : Int32) * v1) + v2) (hs_ln g ((hs_R g v0 13) - 1)) = true then
  if hs_in ((((2001 : Int32) * v1) + v2) + (1 : Int32)) (hs_ln g ((hs_R g v0 21) - 1)) = true then
  hs_bd (fX12_takes v0 (hs_I g ((hs_R g v0 21) - 1) (((2001 : Int32) * v1) + v2).toNatClampNeg) (hs_I g ((hs_R g v0 21) - 1) ((((2001 : Int32) * v1) + v2) + (1 : Int32)).toNatClampNeg) g) fun r10 g9 =>
  hs_bd (fX12_gives (hs_I g ((hs_R g v0 21) - 1) (((2001 : Int32) * v1) + v2).toNatClampNeg) g9) fun r13 g12 =>
  hs_bd (fX12_size (hs_I g ((hs_R g v0 21) - 1) (((2001 : Int32) * v1) + v2).toNatClampNeg) g12) fun r16 g15 =>
  if (hs_I g ((hs_R g v0 21) - 1) (((2001 : Int32) * v1) + v2).toNatClampNeg) = (172 : Int32) then (
    jX12_goesOn_94 v0 v1 v2 (((2001 : Int32) * v1) + v2) (hs_I g ((hs_R g v0 21) - 1) (((2001 : Int32) * v1) + v2).toNatClampNeg) ((hs_I g ((hs_R g v0 13) - 1) (((2001 : Int32) * v1) + v2).toNatClampNeg) - r10) (((hs_I g ((hs_R g v0 13) - 1) (((2001 : Int32) * v1) + v2).toNatClampNeg) - r10) + r13) (v2 + r16) g15
  ) else (
    if (hs_I g ((hs_R g v0 21) - 1) (((2001 : Int32) * v1) + v2).toNatClampNeg) = (191 : Int32) then (
      jX12_goesOn_94 v0 v1 v2 (((2001 : Int32) * v1) + v2) (hs_I g ((hs_R g v0 21) - 1) (((2001 : Int32) * v1) + v2).toNatClampNeg) ((hs_I g ((hs_R g v0 13) - 1) (((2001 : Int32) * v1) + v2).toNatClampNeg) - r10) (((hs_I g ((hs_R g v0 13) - 1) (((2001 : Int32) * v1) + v2).toNatClampNeg) - r10) + r13) (v2 + r16) g15
    ) else (
      if (hs_I g ((hs_R g v0 21) - 1) (((2001 : Int32) * v1) + v2).toNatClampNeg) = (167 : Int32) then (
        jX12_goesOn_94 v0 v1 v2 (((2001 : Int32) * v1) + v2) (hs_I g ((hs_R g v0 21) - 1) (((2001 : Int32) * v1) + v2).toNatClampNeg) ((hs_I g ((hs_R g v0 13) - 1) (((2001 : Int32) * v1) + v2).toNatClampNeg) - r10) (((hs_I g ((hs_R g v0 13) - 1) (((2001 : Int32) * v1) + v2).toNatClampNeg) - r10) + r13) (v2 + r16) g15
      ) else (
        if (hs_I g ((hs_R g v0 21) - 1) (((2001 : Int32) * v1) + v2).toNatClampNeg) = (168 : Int32) then (
          jX12_goesOn_94 v0 v1 v2 (((2001 : Int32) * v1) + v2) (hs_I g ((hs_R g v0 21) - 1) (((2001 : Int32) * v1) + v2).toNatClampNeg) ((hs_I g ((hs_R g v0 13) - 1) (((2001 : Int32) * v1) + v2).toNatClampNeg) - r10) (((hs_I g ((hs_R g v0 13) - 1) (((2001 : Int32) * v1) + v2).toNatClampNeg) - r10) + r13) (v2 + r16) g15
        ) else (
          jX12_goesOn_95 v0 v1 v2 (((2001 : Int32) * v1) + v2) (hs_I g ((hs_R g v0 21) - 1) (((2001 : Int32) * v1) + v2).toNatClampNeg) ((hs_I g ((hs_R g v0 13) - 1) (((2001 : Int32) * v1) + v2).toNatClampNeg) - r10) (((hs_I g ((hs_R g v0 13) - 1) (((2001 : Int32) * v1) + v2).toNatClampNeg) - r10) + r13) (v2 + r16) (1 : Int32) g15
        )
      )
    )
  )
  else none else none else none else none else none else none else none else none
abbrev rmX12_goesOn : Room := { frames := 2, cells := 0, slots := 0, locals := 43 }
set_option maxHeartbeats 4000000 in
set_option maxRecDepth 100000 in
theorem wX12_goesOn_j125 {p : Program} {l : Launch} {e : Env} {s : State} {m : MethodId} {args : Array Value} {below : List Frame} {meth : Method} {c : Code} {B : Nat} {D : va_G} {E : Nat → ClassId} (hX : hs_cx cX12_goesOn (some .int) 10 RX12 wcX12_goesOn p s m args meth c D E) {o : Int32 × hs_S}  {v0 : Nat} {v1 : Int32} {v2 : Int32}   {g : hs_S} {H : Heap} {locs : List Loc} {ls : Array Slot} (hf : jX12_goesOn_125 v0 v1 v2 g = some o) (hP : hs_P B D E g H) (hS : hs_Sx B s.heap H locs) (hl : lv_has ls 10 [(0, .ref (B + v0)), (1, .int v1), (2, .int v2)]) : W p l e rmX12_goesOn s m args below meth c H locs 0 0 (MQ below (hs_Qi B D E o) args s 0 0 (hs_F B)) (F0 m 125 ls []) := by
  obtain ⟨hx, hb, hr, hml, hown, hts, hlocks, hK⟩ := id hX
  unfold jX12_goesOn_125 at hf
  refine lv_aload_n hx hb dX12_goesOn_125 rfl (lv_at hl 0 rfl) ?_
  refine lv_aload_n hx hb dX12_goesOn_126 rfl (lv_at hl 0 rfl) ?_
  obtain ⟨h18, hf⟩ := hs_ck hf
  obtain ⟨h19, hf⟩ := hs_ck hf
  refine hs_getr (C := RX12) (T := TX12) (N := 48) hx hb hts (fun w h => List.mem_cons_of_mem _ (inlX12 w h)) hown hK.1 hP h18 (by decide) rfl 18 (by decide) (hts _ (List.mem_cons_of_mem _ wq137)) (fun _ h => h) rfl h19 dX12_goesOn_127 ?_
  refine lv_iload_n hx hb dX12_goesOn_130 rfl (lv_at hl 1 rfl) ?_
  obtain ⟨h20, hf⟩ := hs_ck hf
  obtain ⟨h21, hf⟩ := hs_ck hf
  refine hs_iald hx hb hK.1 hP h20 h21 dX12_goesOn_131 ?_
  refine lv_iload_n hx hb dX12_goesOn_132 rfl (lv_at hl 2 rfl) ?_
  refine lv_iadd hx hb dX12_goesOn_133 ?_
  obtain ⟨r23, g22, h24, hf⟩ := hs_bd_some hf
  refine hs_calli (va_runV (As := [.int ((hs_I g ((hs_R g v0 18) - 1) v1.toNatClampNeg) + v2)]) (rest := []) ⟨hx, hb, hml, hown, hts⟩ (ctX12_wrong l B D E v0 ((hs_I g ((hs_R g v0 18) - 1) v1.toNatClampNeg) + v2) g _ h24) (cwV 1 hts (hs_gV (fun _ h => List.mem_cons_of_mem _ h) wq404 wq405 wq406 wq5 wq407) rfl rfl rfl (by decide +kernel) ⟨Nat.le_of_ble_eq_true rfl, Nat.le_of_ble_eq_true rfl⟩) (hs_preV (r := (RX12, TX12, 48)) hP hK h18 (by decide) rfl) rfl rfl hl.1 rfl (lv_room (Nat.le_of_ble_eq_true rfl)) dX12_goesOn_134 ⟨(Nat.le_of_ble_eq_true rfl), (Nat.le_of_ble_eq_true rfl)⟩) hS (fun H locs hP hS => ?_)
  exact hs_iret hx hb hr hlocks rfl hK hP hS hf dX12_goesOn_137

set_option maxHeartbeats 4000000 in
set_option maxRecDepth 100000 in
theorem wX12_goesOn_j169 {p : Program} {l : Launch} {e : Env} {s : State} {m : MethodId} {args : Array Value} {below : List Frame} {meth : Method} {c : Code} {B : Nat} {D : va_G} {E : Nat → ClassId} (hX : hs_cx cX12_goesOn (some .int) 10 RX12 wcX12_goesOn p s m args meth c D E) {o : Int32 × hs_S}  {v0 : Nat} {v1 : Int32} {v2 : Int32} {v3 : Int32} {v4 : Int32} {v6 : Int32}   {g : hs_S} {H : Heap} {locs : List Loc} {ls : Array Slot} (hf : jX12_goesOn_169 v0 v1 v2 v3 v4 v6 g = some o) (hP : hs_P B D E g H) (hS : hs_Sx B s.heap H locs) (hl : lv_has ls 10 [(0, .ref (B + v0)), (1, .int v1), (2, .int v2), (3, .int v3), (4, .int v4), (6, .int v6)]) : W p l e rmX12_goesOn s m args below meth c H locs 0 0 (MQ below (hs_Qi B D E o) args s 0 0 (hs_F B)) (F0 m 169 ls []) := by
  obtain ⟨hx, hb, hr, hml, hown, hts, hlocks, hK⟩ := id hX
  unfold jX12_goesOn_169 at hf
  refine lv_iload hx hb dX12_goesOn_169 (lv_at hl 4 rfl) ?_
  obtain ⟨r26, g25, h27, hf⟩ := hs_bd_some hf
  refine hs_calli (va_runS (As := [.int v4]) (rest := []) ⟨hx, hb, hml, hown, hts⟩ (ctX12_isJump l B D E v4 g _ h27) (va_cwS 1 hts (hs_gS (fun _ h => List.mem_cons_of_mem _ h) wq430 wq431 wq5 wq432) rfl rfl rfl (by decide +kernel) ⟨Nat.le_of_ble_eq_true rfl, Nat.le_of_ble_eq_true rfl⟩) (hs_pre hP hK) rfl rfl hl.1 rfl (lv_room (Nat.le_of_ble_eq_true rfl)) dX12_goesOn_171 ⟨(Nat.le_of_ble_eq_true rfl), (Nat.le_of_ble_eq_true rfl)⟩) hS (fun H locs hP hS => ?_)
  refine lv_if_eq (tgt := 227) hx hb dX12_goesOn_174 (by decide) (fun hc => ?_) (fun hc => ?_)
  · replace hf := hs_t hf hc
    refine lv_iconst (v := 0) hx hb dX12_goesOn_227 (by decide) ?_
    exact hs_iret hx hb hr hlocks rfl hK hP hS hf dX12_goesOn_228
  · replace hf := hs_f hf hc
    refine lv_iload hx hb dX12_goesOn_177 (lv_at hl 4 rfl) ?_
    refine lv_iload_n hx hb dX12_goesOn_179 rfl (lv_at hl 2 rfl) ?_
    refine lv_aload_n hx hb dX12_goesOn_180 rfl (lv_at hl 0 rfl) ?_
    obtain ⟨h28, hf⟩ := hs_ck hf
    obtain ⟨h29, hf⟩ := hs_ck hf
    refine hs_getr (C := RX12) (T := TX12) (N := 48) hx hb hts (fun w h => List.mem_cons_of_mem _ (inlX12 w h)) hown hK.1 hP h28 (by decide) rfl 21 (by decide) (hts _ (List.mem_cons_of_mem _ wq140)) (fun _ h => h) rfl h29 dX12_goesOn_181 ?_
    refine lv_iload_n hx hb dX12_goesOn_184 rfl (lv_at hl 3 rfl) ?_
    refine lv_iconst (v := 1) hx hb dX12_goesOn_185 (by decide) ?_
    refine lv_iadd hx hb dX12_goesOn_186 ?_
    obtain ⟨h30, hf⟩ := hs_ck hf
    obtain ⟨h31, hf⟩ := hs_ck hf
    refine hs_iald hx hb hK.1 hP h30 h31 dX12_goesOn_187 ?_
    refine lv_aload_n hx hb dX12_goesOn_188 rfl (lv_at hl 0 rfl) ?_
    refine hs_getr (C := RX12) (T := TX12) (N := 48) hx hb hts (fun w h => List.mem_cons_of_mem _ (inlX12 w h)) hown hK.1 hP h28 (by decide) rfl 21 (by decide) (hts _ (List.mem_cons_of_mem _ wq140)) (fun _ h => h) rfl h29 dX12_goesOn_189 ?_
    refine lv_iload_n hx hb dX12_goesOn_192 rfl (lv_at hl 3 rfl) ?_
    refine lv_iconst (v := 2) hx hb dX12_goesOn_193 (by decide) ?_
    refine lv_iadd hx hb dX12_goesOn_194 ?_
    obtain ⟨h32, hf⟩ := hs_ck hf
    refine hs_iald hx hb hK.1 hP h30 h32 dX12_goesOn_195 ?_
    obtain ⟨r34, g33, h35, hf⟩ := hs_bd_some hf
    refine hs_calli (va_runS (As := [.int v4, .int v2, .int (hs_I g25 ((hs_R g25 v0 21) - 1) (v3 + (1 : Int32)).toNatClampNeg), .int (hs_I g25 ((hs_R g25 v0 21) - 1) (v3 + (2 : Int32)).toNatClampNeg)]) (rest := []) ⟨hx, hb, hml, hown, hts⟩ (ctX12_target l B D E v4 v2 (hs_I g25 ((hs_R g25 v0 21) - 1) (v3 + (1 : Int32)).toNatClampNeg) (hs_I g25 ((hs_R g25 v0 21) - 1) (v3 + (2 : Int32)).toNatClampNeg) g25 _ h35) (va_cwS 4 hts (hs_gS (fun _ h => List.mem_cons_of_mem _ h) wq433 wq434 wq5 wq435) rfl rfl rfl (by decide +kernel) ⟨Nat.le_of_ble_eq_true rfl, Nat.le_of_ble_eq_true rfl⟩) (hs_pre hP hK) rfl rfl hl.1 rfl (lv_room (Nat.le_of_ble_eq_true rfl)) dX12_goesOn_196 ⟨(Nat.le_of_ble_eq_true rfl), (Nat.le_of_ble_eq_true rfl)⟩) hS (fun H locs hP hS => ?_)
    refine lv_istore (lv' := [(9, .int r34), (0, .ref (B + v0)), (1, .int v1), (2, .int v2), (3, .int v3), (4, .int v4), (6, .int v6)]) hx hb dX12_goesOn_199 hl (by decide) rfl (fun ls hl => ?_)
    refine lv_aload_n hx hb dX12_goesOn_201 rfl (lv_at hl 1 rfl) ?_
    refine lv_iload_n hx hb dX12_goesOn_202 rfl (lv_at hl 2 rfl) ?_
    refine lv_iload hx hb dX12_goesOn_203 (lv_at hl 0 rfl) ?_
    refine lv_iload hx hb dX12_goesOn_205 (lv_at hl 6 rfl) ?_
    obtain ⟨h36, hf⟩ := hs_ck hf
    obtain ⟨r38, g37, h39, hf⟩ := hs_bd_some hf
    refine hs_calli (va_runV (As := [.int v1, .int r34, .int v6]) (rest := []) ⟨hx, hb, hml, hown, hts⟩ (ctX12_comes l B D E v0 v1 r34 v6 g33 _ h39) (cwV 3 hts (hs_gV (fun _ h => List.mem_cons_of_mem _ h) wq458 wq459 wq460 wq5 wq461) rfl rfl rfl (by decide +kernel) ⟨Nat.le_of_ble_eq_true rfl, Nat.le_of_ble_eq_true rfl⟩) (hs_preV (r := (RX12, TX12, 48)) hP hK h36 (by decide) rfl) rfl rfl hl.1 rfl (lv_room (Nat.le_of_ble_eq_true rfl)) dX12_goesOn_207 ⟨(Nat.le_of_ble_eq_true rfl), (Nat.le_of_ble_eq_true rfl)⟩) hS (fun H locs hP hS => ?_)
    refine lv_if_ne (tgt := 227) hx hb dX12_goesOn_210 (by decide) (fun hc => ?_) (fun hc => ?_)
    · replace hf := hs_f hf hc
      refine lv_iconst (v := 0) hx hb dX12_goesOn_227 (by decide) ?_
      exact hs_iret hx hb hr hlocks rfl hK hP hS hf dX12_goesOn_228
    · replace hf := hs_t hf hc
      refine lv_aload_n hx hb dX12_goesOn_213 rfl (lv_at hl 1 rfl) ?_
      refine lv_aload_n hx hb dX12_goesOn_214 rfl (lv_at hl 1 rfl) ?_
      obtain ⟨h40, hf⟩ := hs_ck hf
      obtain ⟨h41, hf⟩ := hs_ck hf
      refine hs_getr (C := RX12) (T := TX12) (N := 48) hx hb hts (fun w h => List.mem_cons_of_mem _ (inlX12 w h)) hown hK.1 hP h40 (by decide) rfl 18 (by decide) (hts _ (List.mem_cons_of_mem _ wq137)) (fun _ h => h) rfl h41 dX12_goesOn_215 ?_
      refine lv_iload_n hx hb dX12_goesOn_218 rfl (lv_at hl 2 rfl) ?_
      obtain ⟨h42, hf⟩ := hs_ck hf
      obtain ⟨h43, hf⟩ := hs_ck hf
      refine hs_iald hx hb hK.1 hP h42 h43 dX12_goesOn_219 ?_
      refine lv_iload hx hb dX12_goesOn_220 (lv_at hl 0 rfl) ?_
      refine lv_iadd hx hb dX12_goesOn_222 ?_
      obtain ⟨r45, g44, h46, hf⟩ := hs_bd_some hf
      refine hs_calli (va_runV (As := [.int ((hs_I g37 ((hs_R g37 v0 18) - 1) v1.toNatClampNeg) + r34)]) (rest := []) ⟨hx, hb, hml, hown, hts⟩ (ctX12_wrong l B D E v0 ((hs_I g37 ((hs_R g37 v0 18) - 1) v1.toNatClampNeg) + r34) g37 _ h46) (cwV 1 hts (hs_gV (fun _ h => List.mem_cons_of_mem _ h) wq404 wq405 wq406 wq5 wq407) rfl rfl rfl (by decide +kernel) ⟨Nat.le_of_ble_eq_true rfl, Nat.le_of_ble_eq_true rfl⟩) (hs_preV (r := (RX12, TX12, 48)) hP hK h40 (by decide) rfl) rfl rfl hl.1 rfl (lv_room (Nat.le_of_ble_eq_true rfl)) dX12_goesOn_223 ⟨(Nat.le_of_ble_eq_true rfl), (Nat.le_of_ble_eq_true rfl)⟩) hS (fun H locs hP hS => ?_)
      exact hs_iret hx hb hr hlocks rfl hK hP hS hf dX12_goesOn_226

set_option maxHeartbeats 4000000 in
set_option maxRecDepth 100000 in
theorem wX12_goesOn_j138 {p : Program} {l : Launch} {e : Env} {s : State} {m : MethodId} {args : Array Value} {below : List Frame} {meth : Method} {c : Code} {B : Nat} {D : va_G} {E : Nat → ClassId} (hX : hs_cx cX12_goesOn (some .int) 10 RX12 wcX12_goesOn p s m args meth c D E) {o : Int32 × hs_S}  {v0 : Nat} {v1 : Int32} {v2 : Int32} {v3 : Int32} {v4 : Int32} {v6 : Int32} {v7 : Int32} {v8 : Int32}   {g : hs_S} {H : Heap} {locs : List Loc} {ls : Array Slot} (hf : jX12_goesOn_138 v0 v1 v2 v3 v4 v6 v7 v8 g = some o) (hP : hs_P B D E g H) (hS : hs_Sx B s.heap H locs) (hl : lv_has ls 10 [(0, .ref (B + v0)), (1, .int v1), (2, .int v2), (3, .int v3), (4, .int v4), (6, .int v6), (7, .int v7), (8, .int v8)]) : W p l e rmX12_goesOn s m args below meth c H locs 0 0 (MQ below (hs_Qi B D E o) args s 0 0 (hs_F B)) (F0 m 138 ls []) := by
  obtain ⟨hx, hb, hr, hml, hown, hts, hlocks, hK⟩ := id hX
  unfold jX12_goesOn_138 at hf
  refine lv_iload hx hb dX12_goesOn_138 (lv_at hl 7 rfl) ?_
  refine lv_if_eq (tgt := 169) hx hb dX12_goesOn_140 (by decide) (fun hc => ?_) (fun hc => ?_)
  · replace hf := hs_t hf hc
    exact wX12_goesOn_j169 hX hf hP hS (lv_sub hl [0, 1, 2, 3, 4, 5] rfl)
  · replace hf := hs_f hf hc
    refine lv_aload_n hx hb dX12_goesOn_143 rfl (lv_at hl 0 rfl) ?_
    refine lv_iload_n hx hb dX12_goesOn_144 rfl (lv_at hl 1 rfl) ?_
    refine lv_iload hx hb dX12_goesOn_145 (lv_at hl 6 rfl) ?_
    refine lv_iload hx hb dX12_goesOn_147 (lv_at hl 5 rfl) ?_
    obtain ⟨h47, hf⟩ := hs_ck hf
    obtain ⟨r49, g48, h50, hf⟩ := hs_bd_some hf
    refine hs_calli (va_runV (As := [.int v1, .int v7, .int v6]) (rest := []) ⟨hx, hb, hml, hown, hts⟩ (ctX12_comes l B D E v0 v1 v7 v6 g _ h50) (cwV 3 hts (hs_gV (fun _ h => List.mem_cons_of_mem _ h) wq458 wq459 wq460 wq5 wq461) rfl rfl rfl (by decide +kernel) ⟨Nat.le_of_ble_eq_true rfl, Nat.le_of_ble_eq_true rfl⟩) (hs_preV (r := (RX12, TX12, 48)) hP hK h47 (by decide) rfl) rfl rfl hl.1 rfl (lv_room (Nat.le_of_ble_eq_true rfl)) dX12_goesOn_149 ⟨(Nat.le_of_ble_eq_true rfl), (Nat.le_of_ble_eq_true rfl)⟩) hS (fun H locs hP hS => ?_)
    refine lv_if_ne (tgt := 169) hx hb dX12_goesOn_152 (by decide) (fun hc => ?_) (fun hc => ?_)
    · replace hf := hs_f hf hc
      exact wX12_goesOn_j169 hX hf hP hS (lv_sub hl [0, 1, 2, 3, 4, 5] rfl)
    · replace hf := hs_t hf hc
      refine lv_aload_n hx hb dX12_goesOn_155 rfl (lv_at hl 0 rfl) ?_
      refine lv_aload_n hx hb dX12_goesOn_156 rfl (lv_at hl 0 rfl) ?_
      obtain ⟨h51, hf⟩ := hs_ck hf
      obtain ⟨h52, hf⟩ := hs_ck hf
      refine hs_getr (C := RX12) (T := TX12) (N := 48) hx hb hts (fun w h => List.mem_cons_of_mem _ (inlX12 w h)) hown hK.1 hP h51 (by decide) rfl 18 (by decide) (hts _ (List.mem_cons_of_mem _ wq137)) (fun _ h => h) rfl h52 dX12_goesOn_157 ?_
      refine lv_iload_n hx hb dX12_goesOn_160 rfl (lv_at hl 1 rfl) ?_
      obtain ⟨h53, hf⟩ := hs_ck hf
      obtain ⟨h54, hf⟩ := hs_ck hf
      refine hs_iald hx hb hK.1 hP h53 h54 dX12_goesOn_161 ?_
      refine lv_iload hx hb dX12_goesOn_162 (lv_at hl 6 rfl) ?_
      refine lv_iadd hx hb dX12_goesOn_164 ?_
      obtain ⟨r56, g55, h57, hf⟩ := hs_bd_some hf
      refine hs_calli (va_runV (As := [.int ((hs_I g48 ((hs_R g48 v0 18) - 1) v1.toNatClampNeg) + v7)]) (rest := []) ⟨hx, hb, hml, hown, hts⟩ (ctX12_wrong l B D E v0 ((hs_I g48 ((hs_R g48 v0 18) - 1) v1.toNatClampNeg) + v7) g48 _ h57) (cwV 1 hts (hs_gV (fun _ h => List.mem_cons_of_mem _ h) wq404 wq405 wq406 wq5 wq407) rfl rfl rfl (by decide +kernel) ⟨Nat.le_of_ble_eq_true rfl, Nat.le_of_ble_eq_true rfl⟩) (hs_preV (r := (RX12, TX12, 48)) hP hK h51 (by decide) rfl) rfl rfl hl.1 rfl (lv_room (Nat.le_of_ble_eq_true rfl)) dX12_goesOn_165 ⟨(Nat.le_of_ble_eq_true rfl), (Nat.le_of_ble_eq_true rfl)⟩) hS (fun H locs hP hS => ?_)
      exact hs_iret hx hb hr hlocks rfl hK hP hS hf dX12_goesOn_168

set_option maxHeartbeats 4000000 in
set_option maxRecDepth 100000 in
theorem wX12_goesOn_j95 {p : Program} {l : Launch} {e : Env} {s : State} {m : MethodId} {args : Array Value} {below : List Frame} {meth : Method} {c : Code} {B : Nat} {D : va_G} {E : Nat → ClassId} (hX : hs_cx cX12_goesOn (some .int) 10 RX12 wcX12_goesOn p s m args meth c D E) {o : Int32 × hs_S}  {v0 : Nat} {v1 : Int32} {v2 : Int32} {v3 : Int32} {v4 : Int32} {v5 : Int32} {v6 : Int32} {v7 : Int32} {s0 : Int32}   {g : hs_S} {H : Heap} {locs : List Loc} {ls : Array Slot} (hf : jX12_goesOn_95 v0 v1 v2 v3 v4 v5 v6 v7 s0 g = some o) (hP : hs_P B D E g H) (hS : hs_Sx B s.heap H locs) (hl : lv_has ls 10 [(0, .ref (B + v0)), (1, .int v1), (2, .int v2), (3, .int v3), (4, .int v4), (5, .int v5), (6, .int v6), (7, .int v7)]) : W p l e rmX12_goesOn s m args below meth c H locs 0 0 (MQ below (hs_Qi B D E o) args s 0 0 (hs_F B)) (F0 m 95 ls [.int s0]) := by
  obtain ⟨hx, hb, hr, hml, hown, hts, hlocks, hK⟩ := id hX
  unfold jX12_goesOn_95 at hf
  refine lv_istore (lv' := [(8, .int s0), (0, .ref (B + v0)), (1, .int v1), (2, .int v2), (3, .int v3), (4, .int v4), (5, .int v5), (6, .int v6), (7, .int v7)]) hx hb dX12_goesOn_95 hl (by decide) rfl (fun ls hl => ?_)
  refine lv_iload hx hb dX12_goesOn_97 (lv_at hl 6 rfl) ?_
  refine lv_if_lt (tgt := 125) hx hb dX12_goesOn_99 (by decide) (fun hc => ?_) (fun hc => ?_)
  · replace hf := hs_t hf hc
    exact wX12_goesOn_j125 hX hf hP hS (lv_sub hl [1, 2, 3] rfl)
  · replace hf := hs_f hf hc
    refine lv_iload hx hb dX12_goesOn_102 (lv_at hl 7 rfl) ?_
    refine lv_bipush (v := 20) hx hb dX12_goesOn_104 (by decide) ?_
    refine lv_icmp_gt (tgt := 125) hx hb dX12_goesOn_106 (by decide) (fun hc => ?_) (fun hc => ?_)
    · replace hf := hs_t hf hc
      exact wX12_goesOn_j125 hX hf hP hS (lv_sub hl [1, 2, 3] rfl)
    · replace hf := hs_f hf hc
      refine lv_iload hx hb dX12_goesOn_109 (lv_at hl 0 rfl) ?_
      refine lv_if_eq (tgt := 138) hx hb dX12_goesOn_111 (by decide) (fun hc => ?_) (fun hc => ?_)
      · replace hf := hs_t hf hc
        exact wX12_goesOn_j138 hX hf hP hS (lv_sub hl [1, 2, 3, 4, 5, 7, 8, 0] rfl)
      · replace hf := hs_f hf hc
        refine lv_iload hx hb dX12_goesOn_114 (lv_at hl 8 rfl) ?_
        refine lv_aload_n hx hb dX12_goesOn_116 rfl (lv_at hl 1 rfl) ?_
        obtain ⟨h58, hf⟩ := hs_ck hf
        obtain ⟨h59, hf⟩ := hs_ck hf
        refine hs_getr (C := RX12) (T := TX12) (N := 48) hx hb hts (fun w h => List.mem_cons_of_mem _ (inlX12 w h)) hown hK.1 hP h58 (by decide) rfl 17 (by decide) (hts _ (List.mem_cons_of_mem _ wq136)) (fun _ h => h) rfl h59 dX12_goesOn_117 ?_
        refine lv_iload_n hx hb dX12_goesOn_120 rfl (lv_at hl 2 rfl) ?_
        obtain ⟨h60, hf⟩ := hs_ck hf
        obtain ⟨h61, hf⟩ := hs_ck hf
        refine hs_iald hx hb hK.1 hP h60 h61 dX12_goesOn_121 ?_
        refine lv_icmp_ne (tgt := 138) hx hb dX12_goesOn_122 (by decide) (fun hc => ?_) (fun hc => ?_)
        · replace hf := hs_f hf hc
          exact wX12_goesOn_j138 hX hf hP hS (lv_sub hl [1, 2, 3, 4, 5, 7, 8, 0] rfl)
        · replace hf := hs_t hf hc
          exact wX12_goesOn_j125 hX hf hP hS (lv_sub hl [1, 2, 3] rfl)

set_option maxHeartbeats 4000000 in
set_option maxRecDepth 100000 in
theorem wX12_goesOn_j94 {p : Program} {l : Launch} {e : Env} {s : State} {m : MethodId} {args : Array Value} {below : List Frame} {meth : Method} {c : Code} {B : Nat} {D : va_G} {E : Nat → ClassId} (hX : hs_cx cX12_goesOn (some .int) 10 RX12 wcX12_goesOn p s m args meth c D E) {o : Int32 × hs_S}  {v0 : Nat} {v1 : Int32} {v2 : Int32} {v3 : Int32} {v4 : Int32} {v5 : Int32} {v6 : Int32} {v7 : Int32}   {g : hs_S} {H : Heap} {locs : List Loc} {ls : Array Slot} (hf : jX12_goesOn_94 v0 v1 v2 v3 v4 v5 v6 v7 g = some o) (hP : hs_P B D E g H) (hS : hs_Sx B s.heap H locs) (hl : lv_has ls 10 [(0, .ref (B + v0)), (1, .int v1), (2, .int v2), (3, .int v3), (4, .int v4), (5, .int v5), (6, .int v6), (7, .int v7)]) : W p l e rmX12_goesOn s m args below meth c H locs 0 0 (MQ below (hs_Qi B D E o) args s 0 0 (hs_F B)) (F0 m 94 ls []) := by
  obtain ⟨hx, hb, hr, hml, hown, hts, hlocks, hK⟩ := id hX
  unfold jX12_goesOn_94 at hf
  refine lv_iconst (v := 0) hx hb dX12_goesOn_94 (by decide) ?_
  exact wX12_goesOn_j95 hX hf hP hS (lv_sub hl [0, 1, 2, 3, 4, 5, 6, 7] rfl)

set_option maxHeartbeats 4000000 in
set_option maxRecDepth 100000 in
theorem ctX12_goesOn (l : Launch) (B : Nat) (D : va_G) (E : Nat → ClassId) (v0 : Nat) (v1 : Int32) (v2 : Int32) (g : hs_S) (o : Int32 × hs_S) (hf : fX12_goesOn v0 v1 v2 g = some o) : Met l yX12_goesOn wcX12_goesOn rmX12_goesOn (hs_Pc B D E g [.ref (B + v0), .int v1, .int v2]) (hs_Qi B D E o) (0) (0) (hs_F B) := by
  refine Met.ofW (cc := cX12_goesOn) (maxL := 10) (ret := (some .int)) (by decide) rfl ?_
  intro p e s m args below meth c s₁ Bd hml hv
  obtain ⟨rfl, hP, hK⟩ := hv
  have hx := Bd.exec
  have hb := Bd.bytes
  have hr := Bd.returns
  have hts := atoms_spec (ws := wcX12_goesOn) Bd.pre
  have hown : s.vm.findClass RX12 = some m.cls := findClass_of_methodNamed Bd.named
  have hlocks := Bd.notSynchronized
  have hS : hs_Sx B s.heap s.heap [] := va_S.rf
  have hX : hs_cx cX12_goesOn (some .int) 10 RX12 wcX12_goesOn p s m (List.toArray [.ref (B + v0), .int v1, .int v2]) meth c D E := ⟨hx, hb, hr, hml, hown, hts, hlocks, hK⟩
  have hl := lv_entry ([.ref (B + v0), .int v1, .int v2]) (n := 10) (Nat.le_of_ble_eq_true rfl)
  rw [lg_entry_eq]
  generalize (lg_sl ([.ref (B + v0), .int v1, .int v2]) ++ List.replicate (10 - (lg_sl ([.ref (B + v0), .int v1, .int v2])).length) Slot.unset).toArray = ls at hl ⊢
  have hl : lv_has ls 10 [(0, .ref (B + v0)), (1, .int v1), (2, .int v2)] := hl
  have hP : hs_P B D E g s.heap := hP
  unfold fX12_goesOn at hf
  refine lv_sipush (v := 2001) hx hb dX12_goesOn_0 (by decide) ?_
  refine lv_iload_n hx hb dX12_goesOn_3 rfl (lv_at hl 1 rfl) ?_
  refine lv_imul hx hb dX12_goesOn_4 ?_
  refine lv_iload_n hx hb dX12_goesOn_5 rfl (lv_at hl 2 rfl) ?_
  refine lv_iadd hx hb dX12_goesOn_6 ?_
  refine lv_istore_n (lv' := [(3, .int (((2001 : Int32) * v1) + v2)), (0, .ref (B + v0)), (1, .int v1), (2, .int v2)]) hx hb dX12_goesOn_7 rfl hl (by decide) rfl (fun ls hl => ?_)
  refine lv_aload_n hx hb dX12_goesOn_8 rfl (lv_at hl 1 rfl) ?_
  obtain ⟨h1, hf⟩ := hs_ck hf
  obtain ⟨h2, hf⟩ := hs_ck hf
  refine hs_getr (C := RX12) (T := TX12) (N := 48) hx hb hts (fun w h => List.mem_cons_of_mem _ (inlX12 w h)) hown hK.1 hP h1 (by decide) rfl 21 (by decide) (hts _ (List.mem_cons_of_mem _ wq140)) (fun _ h => h) rfl h2 dX12_goesOn_9 ?_
  refine lv_iload_n hx hb dX12_goesOn_12 rfl (lv_at hl 0 rfl) ?_
  obtain ⟨h3, hf⟩ := hs_ck hf
  obtain ⟨h4, hf⟩ := hs_ck hf
  refine hs_iald hx hb hK.1 hP h3 h4 dX12_goesOn_13 ?_
  refine lv_istore (lv' := [(4, .int (hs_I g ((hs_R g v0 21) - 1) (((2001 : Int32) * v1) + v2).toNatClampNeg)), (3, .int (((2001 : Int32) * v1) + v2)), (0, .ref (B + v0)), (1, .int v1), (2, .int v2)]) hx hb dX12_goesOn_14 hl (by decide) rfl (fun ls hl => ?_)
  refine lv_aload_n hx hb dX12_goesOn_16 rfl (lv_at hl 2 rfl) ?_
  obtain ⟨h5, hf⟩ := hs_ck hf
  refine hs_getr (C := RX12) (T := TX12) (N := 48) hx hb hts (fun w h => List.mem_cons_of_mem _ (inlX12 w h)) hown hK.1 hP h1 (by decide) rfl 13 (by decide) (hts _ (List.mem_cons_of_mem _ wq132)) (fun _ h => h) rfl h5 dX12_goesOn_17 ?_
  refine lv_iload_n hx hb dX12_goesOn_20 rfl (lv_at hl 1 rfl) ?_
  obtain ⟨h6, hf⟩ := hs_ck hf
  obtain ⟨h7, hf⟩ := hs_ck hf
  refine hs_iald hx hb hK.1 hP h6 h7 dX12_goesOn_21 ?_
  refine lv_aload_n hx hb dX12_goesOn_22 rfl (lv_at hl 2 rfl) ?_
  refine lv_iload hx hb dX12_goesOn_23 (lv_at hl 0 rfl) ?_
  refine lv_aload_n hx hb dX12_goesOn_25 rfl (lv_at hl 2 rfl) ?_
  refine hs_getr (C := RX12) (T := TX12) (N := 48) hx hb hts (fun w h => List.mem_cons_of_mem _ (inlX12 w h)) hown hK.1 hP h1 (by decide) rfl 21 (by decide) (hts _ (List.mem_cons_of_mem _ wq140)) (fun _ h => h) rfl h2 dX12_goesOn_26 ?_
  refine lv_iload_n hx hb dX12_goesOn_29 rfl (lv_at hl 1 rfl) ?_
  refine lv_iconst (v := 1) hx hb dX12_goesOn_30 (by decide) ?_
  refine lv_iadd hx hb dX12_goesOn_31 ?_
  obtain ⟨h8, hf⟩ := hs_ck hf
  refine hs_iald hx hb hK.1 hP h3 h8 dX12_goesOn_32 ?_
  obtain ⟨r10, g9, h11, hf⟩ := hs_bd_some hf
  refine hs_calli (va_runV (As := [.int (hs_I g ((hs_R g v0 21) - 1) (((2001 : Int32) * v1) + v2).toNatClampNeg), .int (hs_I g ((hs_R g v0 21) - 1) ((((2001 : Int32) * v1) + v2) + (1 : Int32)).toNatClampNeg)]) (rest := [.int (hs_I g ((hs_R g v0 13) - 1) (((2001 : Int32) * v1) + v2).toNatClampNeg)]) ⟨hx, hb, hml, hown, hts⟩ (ctX12_takes l B D E v0 (hs_I g ((hs_R g v0 21) - 1) (((2001 : Int32) * v1) + v2).toNatClampNeg) (hs_I g ((hs_R g v0 21) - 1) ((((2001 : Int32) * v1) + v2) + (1 : Int32)).toNatClampNeg) g _ h11) (cwV 2 hts (hs_gV (fun _ h => List.mem_cons_of_mem _ h) wq451 wq452 wq453 wq5 wq454) rfl rfl rfl (by decide +kernel) ⟨Nat.le_of_ble_eq_true rfl, Nat.le_of_ble_eq_true rfl⟩) (hs_preV (r := (RX12, TX12, 48)) hP hK h1 (by decide) rfl) rfl rfl hl.1 rfl (lv_room (Nat.le_of_ble_eq_true rfl)) dX12_goesOn_33 ⟨(Nat.le_of_ble_eq_true rfl), (Nat.le_of_ble_eq_true rfl)⟩) hS (fun H locs hP hS => ?_)
  refine lv_isub hx hb dX12_goesOn_36 ?_
  refine lv_istore (lv' := [(5, .int ((hs_I g ((hs_R g v0 13) - 1) (((2001 : Int32) * v1) + v2).toNatClampNeg) - r10)), (4, .int (hs_I g ((hs_R g v0 21) - 1) (((2001 : Int32) * v1) + v2).toNatClampNeg)), (3, .int (((2001 : Int32) * v1) + v2)), (0, .ref (B + v0)), (1, .int v1), (2, .int v2)]) hx hb dX12_goesOn_37 hl (by decide) rfl (fun ls hl => ?_)
  refine lv_iload hx hb dX12_goesOn_39 (lv_at hl 0 rfl) ?_
  refine lv_iload hx hb dX12_goesOn_41 (lv_at hl 1 rfl) ?_
  obtain ⟨r13, g12, h14, hf⟩ := hs_bd_some hf
  refine hs_calli (va_runS (As := [.int (hs_I g ((hs_R g v0 21) - 1) (((2001 : Int32) * v1) + v2).toNatClampNeg)]) (rest := [.int ((hs_I g ((hs_R g v0 13) - 1) (((2001 : Int32) * v1) + v2).toNatClampNeg) - r10)]) ⟨hx, hb, hml, hown, hts⟩ (ctX12_gives l B D E (hs_I g ((hs_R g v0 21) - 1) (((2001 : Int32) * v1) + v2).toNatClampNeg) g9 _ h14) (va_cwS 1 hts (hs_gS (fun _ h => List.mem_cons_of_mem _ h) wq455 wq456 wq5 wq457) rfl rfl rfl (by decide +kernel) ⟨Nat.le_of_ble_eq_true rfl, Nat.le_of_ble_eq_true rfl⟩) (hs_pre hP hK) rfl rfl hl.1 rfl (lv_room (Nat.le_of_ble_eq_true rfl)) dX12_goesOn_43 ⟨(Nat.le_of_ble_eq_true rfl), (Nat.le_of_ble_eq_true rfl)⟩) hS (fun H locs hP hS => ?_)
  refine lv_iadd hx hb dX12_goesOn_46 ?_
  refine lv_istore (lv' := [(6, .int (((hs_I g ((hs_R g v0 13) - 1) (((2001 : Int32) * v1) + v2).toNatClampNeg) - r10) + r13)), (5, .int ((hs_I g ((hs_R g v0 13) - 1) (((2001 : Int32) * v1) + v2).toNatClampNeg) - r10)), (4, .int (hs_I g ((hs_R g v0 21) - 1) (((2001 : Int32) * v1) + v2).toNatClampNeg)), (3, .int (((2001 : Int32) * v1) + v2)), (0, .ref (B + v0)), (1, .int v1), (2, .int v2)]) hx hb dX12_goesOn_47 hl (by decide) rfl (fun ls hl => ?_)
  refine lv_iload_n hx hb dX12_goesOn_49 rfl (lv_at hl 6 rfl) ?_
  refine lv_iload hx hb dX12_goesOn_50 (lv_at hl 2 rfl) ?_
  obtain ⟨r16, g15, h17, hf⟩ := hs_bd_some hf
  refine hs_calli (va_runS (As := [.int (hs_I g ((hs_R g v0 21) - 1) (((2001 : Int32) * v1) + v2).toNatClampNeg)]) (rest := [.int v2]) ⟨hx, hb, hml, hown, hts⟩ (ctX12_size l B D E (hs_I g ((hs_R g v0 21) - 1) (((2001 : Int32) * v1) + v2).toNatClampNeg) g12 _ h17) (va_cwS 1 hts (hs_gS (fun _ h => List.mem_cons_of_mem _ h) wq423 wq424 wq5 wq425) rfl rfl rfl (by decide +kernel) ⟨Nat.le_of_ble_eq_true rfl, Nat.le_of_ble_eq_true rfl⟩) (hs_pre hP hK) rfl rfl hl.1 rfl (lv_room (Nat.le_of_ble_eq_true rfl)) dX12_goesOn_52 ⟨(Nat.le_of_ble_eq_true rfl), (Nat.le_of_ble_eq_true rfl)⟩) hS (fun H locs hP hS => ?_)
  refine lv_iadd hx hb dX12_goesOn_55 ?_
  refine lv_istore (lv' := [(7, .int (v2 + r16)), (6, .int (((hs_I g ((hs_R g v0 13) - 1) (((2001 : Int32) * v1) + v2).toNatClampNeg) - r10) + r13)), (5, .int ((hs_I g ((hs_R g v0 13) - 1) (((2001 : Int32) * v1) + v2).toNatClampNeg) - r10)), (4, .int (hs_I g ((hs_R g v0 21) - 1) (((2001 : Int32) * v1) + v2).toNatClampNeg)), (3, .int (((2001 : Int32) * v1) + v2)), (0, .ref (B + v0)), (1, .int v1), (2, .int v2)]) hx hb dX12_goesOn_56 hl (by decide) rfl (fun ls hl => ?_)
  refine lv_iload hx hb dX12_goesOn_58 (lv_at hl 3 rfl) ?_
  refine lv_sipush (v := 172) hx hb dX12_goesOn_60 (by decide) ?_
  refine lv_icmp_eq (tgt := 94) hx hb dX12_goesOn_63 (by decide) (fun hc => ?_) (fun hc => ?_)
  · replace hf := hs_t hf hc
    exact wX12_goesOn_j94 hX hf hP hS (lv_sub hl [5, 6, 7, 4, 3, 2, 1, 0] rfl)
  · replace hf := hs_f hf hc
    refine lv_iload hx hb dX12_goesOn_66 (lv_at hl 3 rfl) ?_
    refine lv_sipush (v := 191) hx hb dX12_goesOn_68 (by decide) ?_
    refine lv_icmp_eq (tgt := 94) hx hb dX12_goesOn_71 (by decide) (fun hc => ?_) (fun hc => ?_)
    · replace hf := hs_t hf hc
      exact wX12_goesOn_j94 hX hf hP hS (lv_sub hl [5, 6, 7, 4, 3, 2, 1, 0] rfl)
    · replace hf := hs_f hf hc
      refine lv_iload hx hb dX12_goesOn_74 (lv_at hl 3 rfl) ?_
      refine lv_sipush (v := 167) hx hb dX12_goesOn_76 (by decide) ?_
      refine lv_icmp_eq (tgt := 94) hx hb dX12_goesOn_79 (by decide) (fun hc => ?_) (fun hc => ?_)
      · replace hf := hs_t hf hc
        exact wX12_goesOn_j94 hX hf hP hS (lv_sub hl [5, 6, 7, 4, 3, 2, 1, 0] rfl)
      · replace hf := hs_f hf hc
        refine lv_iload hx hb dX12_goesOn_82 (lv_at hl 3 rfl) ?_
        refine lv_sipush (v := 168) hx hb dX12_goesOn_84 (by decide) ?_
        refine lv_icmp_eq (tgt := 94) hx hb dX12_goesOn_87 (by decide) (fun hc => ?_) (fun hc => ?_)
        · replace hf := hs_t hf hc
          exact wX12_goesOn_j94 hX hf hP hS (lv_sub hl [5, 6, 7, 4, 3, 2, 1, 0] rfl)
        · replace hf := hs_f hf hc
          refine lv_iconst (v := 1) hx hb dX12_goesOn_90 (by decide) ?_
          refine lv_goto (tgt := 95) hx hb dX12_goesOn_91 (by decide) ?_
          exact wX12_goesOn_j95 hX hf hP hS (lv_sub hl [5, 6, 7, 4, 3, 2, 1, 0] rfl)

theorem dX12_stacks_0 : decode cX12_stacks 0 = .ok (.aload_n 0, 1) := by decide +kernel
theorem dX12_stacks_1 : decode cX12_stacks 1 = .ok (.getfield 54, 3) := by decide +kernel
theorem dX12_stacks_4 : decode cX12_stacks 4 = .ok (.iload_n 1, 1) := by decide +kernel
theorem dX12_stacks_5 : decode cX12_stacks 5 = .ok (.iaload, 1) := by decide +kernel
theorem dX12_stacks_6 : decode cX12_stacks 6 = .ok (.istore_n 2, 1) := by decide +kernel
theorem dX12_stacks_7 : decode cX12_stacks 7 = .ok (.sipush 2001, 3) := by decide +kernel
theorem dX12_stacks_10 : decode cX12_stacks 10 = .ok (.iload_n 1, 1) := by decide +kernel
theorem dX12_stacks_11 : decode cX12_stacks 11 = .ok (.imul, 1) := by decide +kernel
theorem dX12_stacks_12 : decode cX12_stacks 12 = .ok (.istore_n 3, 1) := by decide +kernel
theorem dX12_stacks_13 : decode cX12_stacks 13 = .ok (.iconst 0, 1) := by decide +kernel
theorem dX12_stacks_14 : decode cX12_stacks 14 = .ok (.istore 4, 2) := by decide +kernel
theorem dX12_stacks_16 : decode cX12_stacks 16 = .ok (.iload 4, 2) := by decide +kernel
theorem dX12_stacks_18 : decode cX12_stacks 18 = .ok (.iload_n 2, 1) := by decide +kernel
theorem dX12_stacks_19 : decode cX12_stacks 19 = .ok (.if_icmp .ge 29, 3) := by decide +kernel
theorem dX12_stacks_22 : decode cX12_stacks 22 = .ok (.aload_n 0, 1) := by decide +kernel
theorem dX12_stacks_23 : decode cX12_stacks 23 = .ok (.getfield 42, 3) := by decide +kernel
theorem dX12_stacks_26 : decode cX12_stacks 26 = .ok (.iload_n 3, 1) := by decide +kernel
theorem dX12_stacks_27 : decode cX12_stacks 27 = .ok (.iload 4, 2) := by decide +kernel
theorem dX12_stacks_29 : decode cX12_stacks 29 = .ok (.iadd, 1) := by decide +kernel
theorem dX12_stacks_30 : decode cX12_stacks 30 = .ok (.iconst (-1), 1) := by decide +kernel
theorem dX12_stacks_31 : decode cX12_stacks 31 = .ok (.iastore, 1) := by decide +kernel
theorem dX12_stacks_32 : decode cX12_stacks 32 = .ok (.aload_n 0, 1) := by decide +kernel
theorem dX12_stacks_33 : decode cX12_stacks 33 = .ok (.getfield 45, 3) := by decide +kernel
theorem dX12_stacks_36 : decode cX12_stacks 36 = .ok (.iload_n 3, 1) := by decide +kernel
theorem dX12_stacks_37 : decode cX12_stacks 37 = .ok (.iload 4, 2) := by decide +kernel
theorem dX12_stacks_39 : decode cX12_stacks 39 = .ok (.iadd, 1) := by decide +kernel
theorem dX12_stacks_40 : decode cX12_stacks 40 = .ok (.iconst 0, 1) := by decide +kernel
theorem dX12_stacks_41 : decode cX12_stacks 41 = .ok (.bastore, 1) := by decide +kernel
theorem dX12_stacks_42 : decode cX12_stacks 42 = .ok (.iinc 4 1, 3) := by decide +kernel
theorem dX12_stacks_45 : decode cX12_stacks 45 = .ok (.goto (-29), 3) := by decide +kernel
theorem dX12_stacks_48 : decode cX12_stacks 48 = .ok (.aload_n 0, 1) := by decide +kernel
theorem dX12_stacks_49 : decode cX12_stacks 49 = .ok (.getfield 42, 3) := by decide +kernel
theorem dX12_stacks_52 : decode cX12_stacks 52 = .ok (.iload_n 3, 1) := by decide +kernel
theorem dX12_stacks_53 : decode cX12_stacks 53 = .ok (.iconst 0, 1) := by decide +kernel
theorem dX12_stacks_54 : decode cX12_stacks 54 = .ok (.iastore, 1) := by decide +kernel
theorem dX12_stacks_55 : decode cX12_stacks 55 = .ok (.iconst 0, 1) := by decide +kernel
theorem dX12_stacks_56 : decode cX12_stacks 56 = .ok (.istore 4, 2) := by decide +kernel
theorem dX12_stacks_58 : decode cX12_stacks 58 = .ok (.iload 4, 2) := by decide +kernel
theorem dX12_stacks_60 : decode cX12_stacks 60 = .ok (.aload_n 0, 1) := by decide +kernel
theorem dX12_stacks_61 : decode cX12_stacks 61 = .ok (.getfield 60, 3) := by decide +kernel
theorem dX12_stacks_64 : decode cX12_stacks 64 = .ok (.iload_n 1, 1) := by decide +kernel
theorem dX12_stacks_65 : decode cX12_stacks 65 = .ok (.iaload, 1) := by decide +kernel
theorem dX12_stacks_66 : decode cX12_stacks 66 = .ok (.if_icmp .ge 53, 3) := by decide +kernel
theorem dX12_stacks_69 : decode cX12_stacks 69 = .ok (.aload_n 0, 1) := by decide +kernel
theorem dX12_stacks_70 : decode cX12_stacks 70 = .ok (.getfield 63, 3) := by decide +kernel
theorem dX12_stacks_73 : decode cX12_stacks 73 = .ok (.bipush 32, 2) := by decide +kernel
theorem dX12_stacks_75 : decode cX12_stacks 75 = .ok (.iload_n 1, 1) := by decide +kernel
theorem dX12_stacks_76 : decode cX12_stacks 76 = .ok (.imul, 1) := by decide +kernel
theorem dX12_stacks_77 : decode cX12_stacks 77 = .ok (.iconst 4, 1) := by decide +kernel
theorem dX12_stacks_78 : decode cX12_stacks 78 = .ok (.iload 4, 2) := by decide +kernel
theorem dX12_stacks_80 : decode cX12_stacks 80 = .ok (.imul, 1) := by decide +kernel
theorem dX12_stacks_81 : decode cX12_stacks 81 = .ok (.iadd, 1) := by decide +kernel
theorem dX12_stacks_82 : decode cX12_stacks 82 = .ok (.iconst 2, 1) := by decide +kernel
theorem dX12_stacks_83 : decode cX12_stacks 83 = .ok (.iadd, 1) := by decide +kernel
theorem dX12_stacks_84 : decode cX12_stacks 84 = .ok (.iaload, 1) := by decide +kernel
theorem dX12_stacks_85 : decode cX12_stacks 85 = .ok (.istore 5, 2) := by decide +kernel
theorem dX12_stacks_87 : decode cX12_stacks 87 = .ok (.iload 5, 2) := by decide +kernel
theorem dX12_stacks_89 : decode cX12_stacks 89 = .ok (.ifCond .ne 14, 3) := by decide +kernel
theorem dX12_stacks_92 : decode cX12_stacks 92 = .ok (.aload_n 0, 1) := by decide +kernel
theorem dX12_stacks_93 : decode cX12_stacks 93 = .ok (.aload_n 0, 1) := by decide +kernel
theorem dX12_stacks_94 : decode cX12_stacks 94 = .ok (.getfield 57, 3) := by decide +kernel
theorem dX12_stacks_97 : decode cX12_stacks 97 = .ok (.iload_n 1, 1) := by decide +kernel
theorem dX12_stacks_98 : decode cX12_stacks 98 = .ok (.iaload, 1) := by decide +kernel
theorem dX12_stacks_99 : decode cX12_stacks 99 = .ok (.invokevirtual 141, 3) := by decide +kernel
theorem dX12_stacks_102 : decode cX12_stacks 102 = .ok (.ireturn, 1) := by decide +kernel
theorem dX12_stacks_103 : decode cX12_stacks 103 = .ok (.aload_n 0, 1) := by decide +kernel
theorem dX12_stacks_104 : decode cX12_stacks 104 = .ok (.getfield 42, 3) := by decide +kernel
theorem dX12_stacks_107 : decode cX12_stacks 107 = .ok (.iload_n 3, 1) := by decide +kernel
theorem dX12_stacks_108 : decode cX12_stacks 108 = .ok (.iload 5, 2) := by decide +kernel
theorem dX12_stacks_110 : decode cX12_stacks 110 = .ok (.iadd, 1) := by decide +kernel
theorem dX12_stacks_111 : decode cX12_stacks 111 = .ok (.iconst 1, 1) := by decide +kernel
theorem dX12_stacks_112 : decode cX12_stacks 112 = .ok (.iastore, 1) := by decide +kernel
theorem dX12_stacks_113 : decode cX12_stacks 113 = .ok (.iinc 4 1, 3) := by decide +kernel
theorem dX12_stacks_116 : decode cX12_stacks 116 = .ok (.goto (-58), 3) := by decide +kernel
theorem dX12_stacks_119 : decode cX12_stacks 119 = .ok (.iconst 0, 1) := by decide +kernel
theorem dX12_stacks_120 : decode cX12_stacks 120 = .ok (.istore 4, 2) := by decide +kernel
theorem dX12_stacks_122 : decode cX12_stacks 122 = .ok (.iload 4, 2) := by decide +kernel
theorem dX12_stacks_124 : decode cX12_stacks 124 = .ok (.iload_n 2, 1) := by decide +kernel
theorem dX12_stacks_125 : decode cX12_stacks 125 = .ok (.if_icmp .ge 66, 3) := by decide +kernel
theorem dX12_stacks_128 : decode cX12_stacks 128 = .ok (.aload_n 0, 1) := by decide +kernel
theorem dX12_stacks_129 : decode cX12_stacks 129 = .ok (.getfield 42, 3) := by decide +kernel
theorem dX12_stacks_132 : decode cX12_stacks 132 = .ok (.iload_n 3, 1) := by decide +kernel
theorem dX12_stacks_133 : decode cX12_stacks 133 = .ok (.iload 4, 2) := by decide +kernel
theorem dX12_stacks_135 : decode cX12_stacks 135 = .ok (.iadd, 1) := by decide +kernel
theorem dX12_stacks_136 : decode cX12_stacks 136 = .ok (.iaload, 1) := by decide +kernel
theorem dX12_stacks_137 : decode cX12_stacks 137 = .ok (.ifCond .lt 15, 3) := by decide +kernel
theorem dX12_stacks_140 : decode cX12_stacks 140 = .ok (.aload_n 0, 1) := by decide +kernel
theorem dX12_stacks_141 : decode cX12_stacks 141 = .ok (.getfield 45, 3) := by decide +kernel
theorem dX12_stacks_144 : decode cX12_stacks 144 = .ok (.iload_n 3, 1) := by decide +kernel
theorem dX12_stacks_145 : decode cX12_stacks 145 = .ok (.iload 4, 2) := by decide +kernel
theorem dX12_stacks_147 : decode cX12_stacks 147 = .ok (.iadd, 1) := by decide +kernel
theorem dX12_stacks_148 : decode cX12_stacks 148 = .ok (.baload, 1) := by decide +kernel
theorem dX12_stacks_149 : decode cX12_stacks 149 = .ok (.ifCond .eq 9, 3) := by decide +kernel
theorem dX12_stacks_152 : decode cX12_stacks 152 = .ok (.iinc 4 1, 3) := by decide +kernel
theorem dX12_stacks_155 : decode cX12_stacks 155 = .ok (.goto (-33), 3) := by decide +kernel
theorem dX12_stacks_158 : decode cX12_stacks 158 = .ok (.aload_n 0, 1) := by decide +kernel
theorem dX12_stacks_159 : decode cX12_stacks 159 = .ok (.getfield 45, 3) := by decide +kernel
theorem dX12_stacks_162 : decode cX12_stacks 162 = .ok (.iload_n 3, 1) := by decide +kernel
theorem dX12_stacks_163 : decode cX12_stacks 163 = .ok (.iload 4, 2) := by decide +kernel
theorem dX12_stacks_165 : decode cX12_stacks 165 = .ok (.iadd, 1) := by decide +kernel
theorem dX12_stacks_166 : decode cX12_stacks 166 = .ok (.iconst 1, 1) := by decide +kernel
theorem dX12_stacks_167 : decode cX12_stacks 167 = .ok (.bastore, 1) := by decide +kernel
theorem dX12_stacks_168 : decode cX12_stacks 168 = .ok (.aload_n 0, 1) := by decide +kernel
theorem dX12_stacks_169 : decode cX12_stacks 169 = .ok (.iload_n 1, 1) := by decide +kernel
theorem dX12_stacks_170 : decode cX12_stacks 170 = .ok (.iload 4, 2) := by decide +kernel
theorem dX12_stacks_172 : decode cX12_stacks 172 = .ok (.invokevirtual 172, 3) := by decide +kernel
theorem dX12_stacks_175 : decode cX12_stacks 175 = .ok (.istore 5, 2) := by decide +kernel
theorem dX12_stacks_177 : decode cX12_stacks 177 = .ok (.iload 5, 2) := by decide +kernel
theorem dX12_stacks_179 : decode cX12_stacks 179 = .ok (.ifCond .ge 6, 3) := by decide +kernel
theorem dX12_stacks_182 : decode cX12_stacks 182 = .ok (.iload 5, 2) := by decide +kernel
theorem dX12_stacks_184 : decode cX12_stacks 184 = .ok (.ireturn, 1) := by decide +kernel
theorem dX12_stacks_185 : decode cX12_stacks 185 = .ok (.iconst 0, 1) := by decide +kernel
theorem dX12_stacks_186 : decode cX12_stacks 186 = .ok (.istore 4, 2) := by decide +kernel
theorem dX12_stacks_188 : decode cX12_stacks 188 = .ok (.goto (-66), 3) := by decide +kernel
theorem dX12_stacks_191 : decode cX12_stacks 191 = .ok (.iconst 0, 1) := by decide +kernel
theorem dX12_stacks_192 : decode cX12_stacks 192 = .ok (.ireturn, 1) := by decide +kernel
abbrev wcX12_stacks : List Cond := .code yX12_stacks cX12_stacks 6 (some .int) :: wsL_law
def lX12_stacks_16 : Nat → Nat → Int32 → Int32 → Int32 → Int32 → hs_S → Option (hs_S)
  | 0, _, _, _, _, _, _ => none
  | n + 1, v0, v1, v2, v3, v4, g =>
    if v2 ≤ v4 then (
      some g
    ) else (
      if hs_kd g v0 = 10 then
      if ¬ (hs_R g v0 13) = 0 then
      if hs_kd g ((hs_R g v0 13) - 1) = 100 then
      if hs_in (v3 + v4) (hs_ln g ((hs_R g v0 13) - 1)) = true then
      if ¬ (hs_R (hs_wI g ((hs_R g v0 13) - 1) (v3 + v4).toNatClampNeg (-1 : Int32)) v0 14) = 0 then
      if hs_kd (hs_wI g ((hs_R g v0 13) - 1) (v3 + v4).toNatClampNeg (-1 : Int32)) ((hs_R (hs_wI g ((hs_R g v0 13) - 1) (v3 + v4).toNatClampNeg (-1 : Int32)) v0 14) - 1) = 101 then
      if hs_in (v3 + v4) (hs_ln (hs_wI g ((hs_R g v0 13) - 1) (v3 + v4).toNatClampNeg (-1 : Int32)) ((hs_R (hs_wI g ((hs_R g v0 13) - 1) (v3 + v4).toNatClampNeg (-1 : Int32)) v0 14) - 1)) = true then
      hs_bv (some (hs_wI (hs_wI g ((hs_R g v0 13) - 1) (v3 + v4).toNatClampNeg (-1 : Int32)) ((hs_R (hs_wI g ((hs_R g v0 13) - 1) (v3 + v4).toNatClampNeg (-1 : Int32)) v0 14) - 1) (v3 + v4).toNatClampNeg (0 : Int32))) fun g12 =>
      lX12_stacks_16 n v0 v1 v2 v3 (v4 + (1 : Int32)) g12
      else none else none else none else none else none else none else none
    )
theorem lX12_stacks_16_s (n : Nat) (v0 : Nat) (v1 : Int32) (v2 : Int32) (v3 : Int32) (v4 : Int32) (g : hs_S) : lX12_stacks_16 (n + 1) v0 v1 v2 v3 v4 g =
    if v2 ≤ v4 then (
      some g
    ) else (
      if hs_kd g v0 = 10 then
      if ¬ (hs_R g v0 13) = 0 then
      if hs_kd g ((hs_R g v0 13) - 1) = 100 then
      if hs_in (v3 + v4) (hs_ln g ((hs_R g v0 13) - 1)) = true then
      if ¬ (hs_R (hs_wI g ((hs_R g v0 13) - 1) (v3 + v4).toNatClampNeg (-1 : Int32)) v0 14) = 0 then
      if hs_kd (hs_wI g ((hs_R g v0 13) - 1) (v3 + v4).toNatClampNeg (-1 : Int32)) ((hs_R (hs_wI g ((hs_R g v0 13) - 1) (v3 + v4).toNatClampNeg (-1 : Int32)) v0 14) - 1) = 101 then
      if hs_in (v3 + v4) (hs_ln (hs_wI g ((hs_R g v0 13) - 1) (v3 + v4).toNatClampNeg (-1 : Int32)) ((hs_R (hs_wI g ((hs_R g v0 13) - 1) (v3 + v4).toNatClampNeg (-1 : Int32)) v0 14) - 1)) = true then
      hs_bv (some (hs_wI (hs_wI g ((hs_R g v0 13) - 1) (v3 + v4).toNatClampNeg (-1 : Int32)) ((hs_R (hs_wI g ((hs_R g v0 13) - 1) (v3 + v4).toNatClampNeg (-1 : Int32)) v0 14) - 1) (v3 + v4).toNatClampNeg (0 : Int32))) fun g12 =>
      lX12_stacks_16 n v0 v1 v2 v3 (v4 + (1 : Int32)) g12
      else none else none else none else none else none else none else none
    ) := rfl
def lX12_stacks_58 : Nat → Nat → Int32 → Int32 → Int32 → Int32 → hs_S → Option (Nat × hs_S)
  | 0, _, _, _, _, _, _ => none
  | n + 1, v0, v1, v2, v3, v4, g =>
    if hs_kd g v0 = 10 then
    if ¬ (hs_R g v0 19) = 0 then
    if hs_kd g ((hs_R g v0 19) - 1) = 100 then
    if hs_in v1 (hs_ln g ((hs_R g v0 19) - 1)) = true then
    if (hs_I g ((hs_R g v0 19) - 1) v1.toNatClampNeg) ≤ v4 then (
      some (0, g)
    ) else (
      if ¬ (hs_R g v0 20) = 0 then
      if hs_kd g ((hs_R g v0 20) - 1) = 100 then
      if hs_in ((((32 : Int32) * v1) + ((4 : Int32) * v4)) + (2 : Int32)) (hs_ln g ((hs_R g v0 20) - 1)) = true then
      if (hs_I g ((hs_R g v0 20) - 1) ((((32 : Int32) * v1) + ((4 : Int32) * v4)) + (2 : Int32)).toNatClampNeg) = 0 then (
        some (1, g)
      ) else (
        if ¬ (hs_R g v0 13) = 0 then
        if hs_kd g ((hs_R g v0 13) - 1) = 100 then
        if hs_in (v3 + (hs_I g ((hs_R g v0 20) - 1) ((((32 : Int32) * v1) + ((4 : Int32) * v4)) + (2 : Int32)).toNatClampNeg)) (hs_ln g ((hs_R g v0 13) - 1)) = true then
        hs_bv (some (hs_wI g ((hs_R g v0 13) - 1) (v3 + (hs_I g ((hs_R g v0 20) - 1) ((((32 : Int32) * v1) + ((4 : Int32) * v4)) + (2 : Int32)).toNatClampNeg)).toNatClampNeg (1 : Int32))) fun g36 =>
        lX12_stacks_58 n v0 v1 v2 v3 (v4 + (1 : Int32)) g36
        else none else none else none
      )
      else none else none else none
    )
    else none else none else none else none
theorem lX12_stacks_58_s (n : Nat) (v0 : Nat) (v1 : Int32) (v2 : Int32) (v3 : Int32) (v4 : Int32) (g : hs_S) : lX12_stacks_58 (n + 1) v0 v1 v2 v3 v4 g =
    if hs_kd g v0 = 10 then
    if ¬ (hs_R g v0 19) = 0 then
    if hs_kd g ((hs_R g v0 19) - 1) = 100 then
    if hs_in v1 (hs_ln g ((hs_R g v0 19) - 1)) = true then
    if (hs_I g ((hs_R g v0 19) - 1) v1.toNatClampNeg) ≤ v4 then (
      some (0, g)
    ) else (
      if ¬ (hs_R g v0 20) = 0 then
      if hs_kd g ((hs_R g v0 20) - 1) = 100 then
      if hs_in ((((32 : Int32) * v1) + ((4 : Int32) * v4)) + (2 : Int32)) (hs_ln g ((hs_R g v0 20) - 1)) = true then
      if (hs_I g ((hs_R g v0 20) - 1) ((((32 : Int32) * v1) + ((4 : Int32) * v4)) + (2 : Int32)).toNatClampNeg) = 0 then (
        some (1, g)
      ) else (
        if ¬ (hs_R g v0 13) = 0 then
        if hs_kd g ((hs_R g v0 13) - 1) = 100 then
        if hs_in (v3 + (hs_I g ((hs_R g v0 20) - 1) ((((32 : Int32) * v1) + ((4 : Int32) * v4)) + (2 : Int32)).toNatClampNeg)) (hs_ln g ((hs_R g v0 13) - 1)) = true then
        hs_bv (some (hs_wI g ((hs_R g v0 13) - 1) (v3 + (hs_I g ((hs_R g v0 20) - 1) ((((32 : Int32) * v1) + ((4 : Int32) * v4)) + (2 : Int32)).toNatClampNeg)).toNatClampNeg (1 : Int32))) fun g36 =>
        lX12_stacks_58 n v0 v1 v2 v3 (v4 + (1 : Int32)) g36
        else none else none else none
      )
      else none else none else none
    )
    else none else none else none else none := rfl
def jX12_stacks_152 (rec : Int32 → hs_S → Option (Nat × Int32 × hs_S)) (v0 : Nat) (v1 : Int32) (v2 : Int32) (v3 : Int32) (v4 : Int32) (g : hs_S) : Option (Nat × Int32 × hs_S) :=
  rec (v4 + (1 : Int32)) g
def lX12_stacks_122 : Nat → Nat → Int32 → Int32 → Int32 → Int32 → hs_S → Option (Nat × Int32 × hs_S)
  | 0, _, _, _, _, _, _ => none
  | n + 1, v0, v1, v2, v3, v4, g =>
    if v2 ≤ v4 then (
      some (0, 0, g)
    ) else (
      if hs_kd g v0 = 10 then
      if ¬ (hs_R g v0 13) = 0 then
      if hs_kd g ((hs_R g v0 13) - 1) = 100 then
      if hs_in (v3 + v4) (hs_ln g ((hs_R g v0 13) - 1)) = true then
      if (hs_I g ((hs_R g v0 13) - 1) (v3 + v4).toNatClampNeg) < 0 then (
        jX12_stacks_152 (fun y0 g => lX12_stacks_122 n v0 v1 v2 v3 y0 g) v0 v1 v2 v3 v4 g
      ) else (
        if ¬ (hs_R g v0 14) = 0 then
        if hs_kd g ((hs_R g v0 14) - 1) = 101 then
        if hs_in (v3 + v4) (hs_ln g ((hs_R g v0 14) - 1)) = true then
        if (hs_I g ((hs_R g v0 14) - 1) (v3 + v4).toNatClampNeg) = 0 then (
          hs_bd (fX12_goesOn v0 v1 v4 (hs_wI g ((hs_R g v0 14) - 1) (v3 + v4).toNatClampNeg (1 : Int32))) fun r56 g55 =>
          if 0 ≤ r56 then (
            lX12_stacks_122 n v0 v1 v2 v3 (0 : Int32) g55
          ) else (
            some (1, r56, g55)
          )
        ) else (
          jX12_stacks_152 (fun y0 g => lX12_stacks_122 n v0 v1 v2 v3 y0 g) v0 v1 v2 v3 v4 g
        )
        else none else none else none
      )
      else none else none else none else none
    )
theorem lX12_stacks_122_s (n : Nat) (v0 : Nat) (v1 : Int32) (v2 : Int32) (v3 : Int32) (v4 : Int32) (g : hs_S) : lX12_stacks_122 (n + 1) v0 v1 v2 v3 v4 g =
    if v2 ≤ v4 then (
      some (0, 0, g)
    ) else (
      if hs_kd g v0 = 10 then
      if ¬ (hs_R g v0 13) = 0 then
      if hs_kd g ((hs_R g v0 13) - 1) = 100 then
      if hs_in (v3 + v4) (hs_ln g ((hs_R g v0 13) - 1)) = true then
      if (hs_I g ((hs_R g v0 13) - 1) (v3 + v4).toNatClampNeg) < 0 then (
        jX12_stacks_152 (fun y0 g => lX12_stacks_122 n v0 v1 v2 v3 y0 g) v0 v1 v2 v3 v4 g
      ) else (
        if ¬ (hs_R g v0 14) = 0 then
        if hs_kd g ((hs_R g v0 14) - 1) = 101 then
        if hs_in (v3 + v4) (hs_ln g ((hs_R g v0 14) - 1)) = true then
        if (hs_I g ((hs_R g v0 14) - 1) (v3 + v4).toNatClampNeg) = 0 then (
          hs_bd (fX12_goesOn v0 v1 v4 (hs_wI g ((hs_R g v0 14) - 1) (v3 + v4).toNatClampNeg (1 : Int32))) fun r56 g55 =>
          if 0 ≤ r56 then (
            lX12_stacks_122 n v0 v1 v2 v3 (0 : Int32) g55
          ) else (
            some (1, r56, g55)
          )
        ) else (
          jX12_stacks_152 (fun y0 g => lX12_stacks_122 n v0 v1 v2 v3 y0 g) v0 v1 v2 v3 v4 g
        )
        else none else none else none
      )
      else none else none else none else none
    ) := rfl
def fX12_stacks (v0 : Nat) (v1 : Int32) (g : hs_S) : Option (Int32 × hs_S) :=
  if hs_kd g v0 = 10 then
  if ¬ (hs_R g v0 17) = 0 then
  if hs_kd g ((hs_R g v0 17) - 1) = 100 then
  if hs_in v1 (hs_ln g ((hs_R g v0 17) - 1)) = true then
  hs_bv (lX12_stacks_16 hs_N v0 v1 (hs_I g ((hs_R g v0 17) - 1) v1.toNatClampNeg) ((2001 : Int32) * v1) (0 : Int32) g) fun g20 =>
  if hs_kd g20 v0 = 10 then
  if ¬ (hs_R g20 v0 13) = 0 then
  if hs_kd g20 ((hs_R g20 v0 13) - 1) = 100 then
  if hs_in ((2001 : Int32) * v1) (hs_ln g20 ((hs_R g20 v0 13) - 1)) = true then
  hs_bd (lX12_stacks_58 hs_N v0 v1 (hs_I g ((hs_R g v0 17) - 1) v1.toNatClampNeg) ((2001 : Int32) * v1) (0 : Int32) (hs_wI g20 ((hs_R g20 v0 13) - 1) ((2001 : Int32) * v1).toNatClampNeg (0 : Int32))) fun k45 g46 =>
  if k45 = 0 then (
    hs_b3 (lX12_stacks_122 hs_N v0 v1 (hs_I g ((hs_R g v0 17) - 1) v1.toNatClampNeg) ((2001 : Int32) * v1) (0 : Int32) g46) fun k59 x58 g60 =>
    if k59 = 0 then (
      some ((0 : Int32), g60)
    ) else (
      some (x58, g60)
    )
  ) else (
    if hs_kd g46 v0 = 10 then
    if ¬ (hs_R g46 v0 18) = 0 then
    if hs_kd g46 ((hs_R g46 v0 18) - 1) = 100 then
    if hs_in v1 (hs_ln g46 ((hs_R g46 v0 18) - 1)) = true then
    hs_bd (fX12_wrong v0 (hs_I g46 ((hs_R g46 v0 18) - 1) v1.toNatClampNeg) g46) fun r67 g66 =>
    some (r67, g66)
    else none else none else none else none
  )
  else none else none else none else none else none else none else none else none
abbrev rmX12_stacks : Room := { frames := 3, cells := 0, slots := 0, locals := 72 }
set_option maxHeartbeats 4000000 in
set_option maxRecDepth 100000 in
theorem wX12_stacks_16 {p : Program} {l : Launch} {e : Env} {s : State} {m : MethodId} {args : Array Value} {below : List Frame} {meth : Method} {c : Code} {B : Nat} {D : va_G} {E : Nat → ClassId} (hX : hs_cx cX12_stacks (some .int) 6 RX12 wcX12_stacks p s m args meth c D E) {Q : State → Prop} {o : hs_S} {v0 : Nat} {v1 : Int32} {v2 : Int32} {v3 : Int32} (hex0 : ∀ (H : Heap) (locs : List Loc) (ls : Array Slot), hs_P B D E (o) H → hs_Sx B s.heap H locs → lv_has ls 6 [(0, .ref (B + v0)), (1, .int v1), (2, .int v2), (3, .int v3)] → W p l e rmX12_stacks s m args below meth c H locs 0 0 Q (F0 m 48 ls [])) : ∀ (n : Nat) (v4 : Int32) (g : hs_S), lX12_stacks_16 n v0 v1 v2 v3 v4 g = some o → ∀ (H : Heap) (locs : List Loc) (ls : Array Slot), hs_P B D E g H → hs_Sx B s.heap H locs → lv_has ls 6 [(0, .ref (B + v0)), (1, .int v1), (2, .int v2), (3, .int v3), (4, .int v4)] → W p l e rmX12_stacks s m args below meth c H locs 0 0 Q (F0 m 16 ls []) := by
  obtain ⟨hx, hb, hr, hml, hown, hts, hlocks, hK⟩ := id hX
  intro n
  induction n with
  | zero =>
    intro v4 g hf
    cases hf
  | succ n ih =>
    intro v4 g hf H locs ls hP hS hl
    replace hf := (lX12_stacks_16_s n v0 v1 v2 v3 v4 g).symm.trans hf
    refine lv_iload hx hb dX12_stacks_16 (lv_at hl 4 rfl) ?_
    refine lv_iload_n hx hb dX12_stacks_18 rfl (lv_at hl 2 rfl) ?_
    refine lv_icmp_ge (tgt := 48) hx hb dX12_stacks_19 (by decide) (fun hc => ?_) (fun hc => ?_)
    · replace hf := hs_t hf hc
      obtain rfl := Option.some.inj hf
      exact hex0 _ _ _ hP hS (lv_sub hl [0, 1, 2, 3] rfl)
    · replace hf := hs_f hf hc
      refine lv_aload_n hx hb dX12_stacks_22 rfl (lv_at hl 0 rfl) ?_
      obtain ⟨h5, hf⟩ := hs_ck hf
      obtain ⟨h6, hf⟩ := hs_ck hf
      refine hs_getr (C := RX12) (T := TX12) (N := 48) hx hb hts (fun w h => List.mem_cons_of_mem _ (inlX12 w h)) hown hK.1 hP h5 (by decide) rfl 13 (by decide) (hts _ (List.mem_cons_of_mem _ wq132)) (fun _ h => h) rfl h6 dX12_stacks_23 ?_
      refine lv_iload_n hx hb dX12_stacks_26 rfl (lv_at hl 3 rfl) ?_
      refine lv_iload hx hb dX12_stacks_27 (lv_at hl 4 rfl) ?_
      refine lv_iadd hx hb dX12_stacks_29 ?_
      refine lv_iconst (v := -1) hx hb dX12_stacks_30 (by decide) ?_
      obtain ⟨h7, hf⟩ := hs_ck hf
      obtain ⟨h8, hf⟩ := hs_ck hf
      refine hs_iast hx hb hK.1 hP hS h7 h8 dX12_stacks_31 (fun H locs hP hS => ?_)
      refine lv_aload_n hx hb dX12_stacks_32 rfl (lv_at hl 0 rfl) ?_
      obtain ⟨h9, hf⟩ := hs_ck hf
      refine hs_getr (C := RX12) (T := TX12) (N := 48) hx hb hts (fun w h => List.mem_cons_of_mem _ (inlX12 w h)) hown hK.1 hP h5 (by decide) rfl 14 (by decide) (hts _ (List.mem_cons_of_mem _ wq133)) (fun _ h => h) rfl h9 dX12_stacks_33 ?_
      refine lv_iload_n hx hb dX12_stacks_36 rfl (lv_at hl 3 rfl) ?_
      refine lv_iload hx hb dX12_stacks_37 (lv_at hl 4 rfl) ?_
      refine lv_iadd hx hb dX12_stacks_39 ?_
      refine lv_iconst (v := 0) hx hb dX12_stacks_40 (by decide) ?_
      obtain ⟨h10, hf⟩ := hs_ck hf
      obtain ⟨h11, hf⟩ := hs_ck hf
      refine hs_zast hx hb hK.1 hP hS h10 h11 (rfl) dX12_stacks_41 (fun H locs hP hS => ?_)
      obtain ⟨g12, e13, hf⟩ := hs_bv_some hf
      replace e13 := Option.some.inj e13
      rw [e13] at hP
      have h14 : hs_kd g12 v0 = 10 := by rw [← e13]; exact h5
      have h15 : hs_kd g12 ((hs_R g v0 13) - 1) = 100 := by rw [← e13]; exact h7
      have h16 : hs_in (v3 + v4) (hs_ln g12 ((hs_R g v0 13) - 1)) = true := by rw [← e13]; exact h8
      have h17 : hs_kd g12 ((hs_R (hs_wI g ((hs_R g v0 13) - 1) (v3 + v4).toNatClampNeg (-1 : Int32)) v0 14) - 1) = 101 := by rw [← e13]; exact h10
      have h18 : hs_in (v3 + v4) (hs_ln g12 ((hs_R (hs_wI g ((hs_R g v0 13) - 1) (v3 + v4).toNatClampNeg (-1 : Int32)) v0 14) - 1)) = true := by rw [← e13]; exact h11
      refine lv_iinc (v := (v4 + (1 : Int32))) (lv' := [(4, .int (v4 + (1 : Int32))), (0, .ref (B + v0)), (1, .int v1), (2, .int v2), (3, .int v3)]) hx hb dX12_stacks_42 hl (k := 4) rfl (by rfl) (by decide) rfl (fun ls hl => ?_)
      refine lv_goto (tgt := 16) hx hb dX12_stacks_45 (by decide) ?_
      exact ih _ _ hf _ _ _ hP hS (lv_sub hl [1, 2, 3, 4, 0] rfl)

set_option maxHeartbeats 4000000 in
set_option maxRecDepth 100000 in
theorem wX12_stacks_58 {p : Program} {l : Launch} {e : Env} {s : State} {m : MethodId} {args : Array Value} {below : List Frame} {meth : Method} {c : Code} {B : Nat} {D : va_G} {E : Nat → ClassId} (hX : hs_cx cX12_stacks (some .int) 6 RX12 wcX12_stacks p s m args meth c D E) {Q : State → Prop} {o : Nat × hs_S} {v0 : Nat} {v1 : Int32} {v2 : Int32} {v3 : Int32} (hex0 : o.1 = 0 → ∀ (H : Heap) (locs : List Loc) (ls : Array Slot), hs_P B D E (o.2) H → hs_Sx B s.heap H locs → lv_has ls 6 [(0, .ref (B + v0)), (1, .int v1), (2, .int v2), (3, .int v3)] → W p l e rmX12_stacks s m args below meth c H locs 0 0 Q (F0 m 119 ls [])) (hex1 : o.1 = 1 → ∀ (H : Heap) (locs : List Loc) (ls : Array Slot), hs_P B D E (o.2) H → hs_Sx B s.heap H locs → lv_has ls 6 [(0, .ref (B + v0)), (1, .int v1)] → W p l e rmX12_stacks s m args below meth c H locs 0 0 Q (F0 m 92 ls [])) : ∀ (n : Nat) (v4 : Int32) (g : hs_S), lX12_stacks_58 n v0 v1 v2 v3 v4 g = some o → ∀ (H : Heap) (locs : List Loc) (ls : Array Slot), hs_P B D E g H → hs_Sx B s.heap H locs → lv_has ls 6 [(0, .ref (B + v0)), (1, .int v1), (2, .int v2), (3, .int v3), (4, .int v4)] → W p l e rmX12_stacks s m args below meth c H locs 0 0 Q (F0 m 58 ls []) := by
  obtain ⟨hx, hb, hr, hml, hown, hts, hlocks, hK⟩ := id hX
  intro n
  induction n with
  | zero =>
    intro v4 g hf
    cases hf
  | succ n ih =>
    intro v4 g hf H locs ls hP hS hl
    replace hf := (lX12_stacks_58_s n v0 v1 v2 v3 v4 g).symm.trans hf
    refine lv_iload hx hb dX12_stacks_58 (lv_at hl 4 rfl) ?_
    refine lv_aload_n hx hb dX12_stacks_60 rfl (lv_at hl 0 rfl) ?_
    obtain ⟨h26, hf⟩ := hs_ck hf
    obtain ⟨h27, hf⟩ := hs_ck hf
    refine hs_getr (C := RX12) (T := TX12) (N := 48) hx hb hts (fun w h => List.mem_cons_of_mem _ (inlX12 w h)) hown hK.1 hP h26 (by decide) rfl 19 (by decide) (hts _ (List.mem_cons_of_mem _ wq138)) (fun _ h => h) rfl h27 dX12_stacks_61 ?_
    refine lv_iload_n hx hb dX12_stacks_64 rfl (lv_at hl 1 rfl) ?_
    obtain ⟨h28, hf⟩ := hs_ck hf
    obtain ⟨h29, hf⟩ := hs_ck hf
    refine hs_iald hx hb hK.1 hP h28 h29 dX12_stacks_65 ?_
    refine lv_icmp_ge (tgt := 119) hx hb dX12_stacks_66 (by decide) (fun hc => ?_) (fun hc => ?_)
    · replace hf := hs_t hf hc
      obtain rfl := Option.some.inj hf
      exact hex0 rfl _ _ _ hP hS (lv_sub hl [0, 1, 2, 3] rfl)
    · replace hf := hs_f hf hc
      refine lv_aload_n hx hb dX12_stacks_69 rfl (lv_at hl 0 rfl) ?_
      obtain ⟨h30, hf⟩ := hs_ck hf
      refine hs_getr (C := RX12) (T := TX12) (N := 48) hx hb hts (fun w h => List.mem_cons_of_mem _ (inlX12 w h)) hown hK.1 hP h26 (by decide) rfl 20 (by decide) (hts _ (List.mem_cons_of_mem _ wq139)) (fun _ h => h) rfl h30 dX12_stacks_70 ?_
      refine lv_bipush (v := 32) hx hb dX12_stacks_73 (by decide) ?_
      refine lv_iload_n hx hb dX12_stacks_75 rfl (lv_at hl 1 rfl) ?_
      refine lv_imul hx hb dX12_stacks_76 ?_
      refine lv_iconst (v := 4) hx hb dX12_stacks_77 (by decide) ?_
      refine lv_iload hx hb dX12_stacks_78 (lv_at hl 4 rfl) ?_
      refine lv_imul hx hb dX12_stacks_80 ?_
      refine lv_iadd hx hb dX12_stacks_81 ?_
      refine lv_iconst (v := 2) hx hb dX12_stacks_82 (by decide) ?_
      refine lv_iadd hx hb dX12_stacks_83 ?_
      obtain ⟨h31, hf⟩ := hs_ck hf
      obtain ⟨h32, hf⟩ := hs_ck hf
      refine hs_iald hx hb hK.1 hP h31 h32 dX12_stacks_84 ?_
      refine lv_istore (lv' := [(5, .int (hs_I g ((hs_R g v0 20) - 1) ((((32 : Int32) * v1) + ((4 : Int32) * v4)) + (2 : Int32)).toNatClampNeg)), (0, .ref (B + v0)), (1, .int v1), (2, .int v2), (3, .int v3), (4, .int v4)]) hx hb dX12_stacks_85 hl (by decide) rfl (fun ls hl => ?_)
      refine lv_iload hx hb dX12_stacks_87 (lv_at hl 0 rfl) ?_
      refine lv_if_ne (tgt := 103) hx hb dX12_stacks_89 (by decide) (fun hc => ?_) (fun hc => ?_)
      · replace hf := hs_f hf hc
        refine lv_aload_n hx hb dX12_stacks_103 rfl (lv_at hl 1 rfl) ?_
        obtain ⟨h33, hf⟩ := hs_ck hf
        refine hs_getr (C := RX12) (T := TX12) (N := 48) hx hb hts (fun w h => List.mem_cons_of_mem _ (inlX12 w h)) hown hK.1 hP h26 (by decide) rfl 13 (by decide) (hts _ (List.mem_cons_of_mem _ wq132)) (fun _ h => h) rfl h33 dX12_stacks_104 ?_
        refine lv_iload_n hx hb dX12_stacks_107 rfl (lv_at hl 4 rfl) ?_
        refine lv_iload hx hb dX12_stacks_108 (lv_at hl 0 rfl) ?_
        refine lv_iadd hx hb dX12_stacks_110 ?_
        refine lv_iconst (v := 1) hx hb dX12_stacks_111 (by decide) ?_
        obtain ⟨h34, hf⟩ := hs_ck hf
        obtain ⟨h35, hf⟩ := hs_ck hf
        refine hs_iast hx hb hK.1 hP hS h34 h35 dX12_stacks_112 (fun H locs hP hS => ?_)
        obtain ⟨g36, e37, hf⟩ := hs_bv_some hf
        replace e37 := Option.some.inj e37
        rw [e37] at hP
        have h38 : hs_kd g36 v0 = 10 := by rw [← e37]; exact h26
        have h39 : hs_kd g36 ((hs_R g v0 19) - 1) = 100 := by rw [← e37]; exact h28
        have h40 : hs_in v1 (hs_ln g36 ((hs_R g v0 19) - 1)) = true := by rw [← e37]; exact h29
        have h41 : hs_kd g36 ((hs_R g v0 20) - 1) = 100 := by rw [← e37]; exact h31
        have h42 : hs_in ((((32 : Int32) * v1) + ((4 : Int32) * v4)) + (2 : Int32)) (hs_ln g36 ((hs_R g v0 20) - 1)) = true := by rw [← e37]; exact h32
        have h43 : hs_kd g36 ((hs_R g v0 13) - 1) = 100 := by rw [← e37]; exact h34
        have h44 : hs_in (v3 + (hs_I g ((hs_R g v0 20) - 1) ((((32 : Int32) * v1) + ((4 : Int32) * v4)) + (2 : Int32)).toNatClampNeg)) (hs_ln g36 ((hs_R g v0 13) - 1)) = true := by rw [← e37]; exact h35
        refine lv_iinc (v := (v4 + (1 : Int32))) (lv' := [(4, .int (v4 + (1 : Int32))), (5, .int (hs_I g ((hs_R g v0 20) - 1) ((((32 : Int32) * v1) + ((4 : Int32) * v4)) + (2 : Int32)).toNatClampNeg)), (0, .ref (B + v0)), (1, .int v1), (2, .int v2), (3, .int v3)]) hx hb dX12_stacks_113 hl (k := 5) rfl (by rfl) (by decide) rfl (fun ls hl => ?_)
        refine lv_goto (tgt := 58) hx hb dX12_stacks_116 (by decide) ?_
        exact ih _ _ hf _ _ _ hP hS (lv_sub hl [2, 3, 4, 5, 0] rfl)
      · replace hf := hs_t hf hc
        obtain rfl := Option.some.inj hf
        exact hex1 rfl _ _ _ hP hS (lv_sub hl [1, 2] rfl)

set_option maxHeartbeats 4000000 in
set_option maxRecDepth 100000 in
theorem wX12_stacks_j152 {p : Program} {l : Launch} {e : Env} {s : State} {m : MethodId} {args : Array Value} {below : List Frame} {meth : Method} {c : Code} {B : Nat} {D : va_G} {E : Nat → ClassId} (hX : hs_cx cX12_stacks (some .int) 6 RX12 wcX12_stacks p s m args meth c D E) {Q : State → Prop} {o : Nat × Int32 × hs_S} {rec : Int32 → hs_S → Option (Nat × Int32 × hs_S)} {v0 : Nat} {v1 : Int32} {v2 : Int32} {v3 : Int32} {v4 : Int32}  (hrec : ∀ (y0 : Int32) (g : hs_S) (H : Heap) (locs : List Loc) (ls : Array Slot), rec y0 g = some o → hs_P B D E g H → hs_Sx B s.heap H locs → lv_has ls 6 [(0, .ref (B + v0)), (1, .int v1), (2, .int v2), (3, .int v3), (4, .int y0)] → W p l e rmX12_stacks s m args below meth c H locs 0 0 Q (F0 m 122 ls [])) (hex0 : o.1 = 0 → ∀ (H : Heap) (locs : List Loc) (ls : Array Slot), hs_P B D E (o.2.2) H → hs_Sx B s.heap H locs → lv_has ls 6 [] → W p l e rmX12_stacks s m args below meth c H locs 0 0 Q (F0 m 191 ls [])) (hex1 : o.1 = 1 → ∀ (H : Heap) (locs : List Loc) (ls : Array Slot), hs_P B D E (o.2.2) H → hs_Sx B s.heap H locs → lv_has ls 6 [(5, .int (o.2.1))] → W p l e rmX12_stacks s m args below meth c H locs 0 0 Q (F0 m 182 ls [])) {g : hs_S} {H : Heap} {locs : List Loc} {ls : Array Slot} (hf : jX12_stacks_152 rec v0 v1 v2 v3 v4 g = some o) (hP : hs_P B D E g H) (hS : hs_Sx B s.heap H locs) (hl : lv_has ls 6 [(0, .ref (B + v0)), (1, .int v1), (2, .int v2), (3, .int v3), (4, .int v4)]) : W p l e rmX12_stacks s m args below meth c H locs 0 0 Q (F0 m 152 ls []) := by
  obtain ⟨hx, hb, hr, hml, hown, hts, hlocks, hK⟩ := id hX
  unfold jX12_stacks_152 at hf
  refine lv_iinc (v := (v4 + (1 : Int32))) (lv' := [(4, .int (v4 + (1 : Int32))), (0, .ref (B + v0)), (1, .int v1), (2, .int v2), (3, .int v3)]) hx hb dX12_stacks_152 hl (k := 4) rfl (by rfl) (by decide) rfl (fun ls hl => ?_)
  refine lv_goto (tgt := 122) hx hb dX12_stacks_155 (by decide) ?_
  exact hrec _ _ _ _ _ hf hP hS (lv_sub hl [1, 2, 3, 4, 0] rfl)

set_option maxHeartbeats 4000000 in
set_option maxRecDepth 100000 in
theorem wX12_stacks_122 {p : Program} {l : Launch} {e : Env} {s : State} {m : MethodId} {args : Array Value} {below : List Frame} {meth : Method} {c : Code} {B : Nat} {D : va_G} {E : Nat → ClassId} (hX : hs_cx cX12_stacks (some .int) 6 RX12 wcX12_stacks p s m args meth c D E) {Q : State → Prop} {o : Nat × Int32 × hs_S} {v0 : Nat} {v1 : Int32} {v2 : Int32} {v3 : Int32} (hex0 : o.1 = 0 → ∀ (H : Heap) (locs : List Loc) (ls : Array Slot), hs_P B D E (o.2.2) H → hs_Sx B s.heap H locs → lv_has ls 6 [] → W p l e rmX12_stacks s m args below meth c H locs 0 0 Q (F0 m 191 ls [])) (hex1 : o.1 = 1 → ∀ (H : Heap) (locs : List Loc) (ls : Array Slot), hs_P B D E (o.2.2) H → hs_Sx B s.heap H locs → lv_has ls 6 [(5, .int (o.2.1))] → W p l e rmX12_stacks s m args below meth c H locs 0 0 Q (F0 m 182 ls [])) : ∀ (n : Nat) (v4 : Int32) (g : hs_S), lX12_stacks_122 n v0 v1 v2 v3 v4 g = some o → ∀ (H : Heap) (locs : List Loc) (ls : Array Slot), hs_P B D E g H → hs_Sx B s.heap H locs → lv_has ls 6 [(0, .ref (B + v0)), (1, .int v1), (2, .int v2), (3, .int v3), (4, .int v4)] → W p l e rmX12_stacks s m args below meth c H locs 0 0 Q (F0 m 122 ls []) := by
  obtain ⟨hx, hb, hr, hml, hown, hts, hlocks, hK⟩ := id hX
  intro n
  induction n with
  | zero =>
    intro v4 g hf
    cases hf
  | succ n ih =>
    intro v4 g hf H locs ls hP hS hl
    replace hf := (lX12_stacks_122_s n v0 v1 v2 v3 v4 g).symm.trans hf
    refine lv_iload hx hb dX12_stacks_122 (lv_at hl 4 rfl) ?_
    refine lv_iload_n hx hb dX12_stacks_124 rfl (lv_at hl 2 rfl) ?_
    refine lv_icmp_ge (tgt := 191) hx hb dX12_stacks_125 (by decide) (fun hc => ?_) (fun hc => ?_)
    · replace hf := hs_t hf hc
      obtain rfl := Option.some.inj hf
      exact hex0 rfl _ _ _ hP hS (lv_sub hl [] rfl)
    · replace hf := hs_f hf hc
      refine lv_aload_n hx hb dX12_stacks_128 rfl (lv_at hl 0 rfl) ?_
      obtain ⟨h48, hf⟩ := hs_ck hf
      obtain ⟨h49, hf⟩ := hs_ck hf
      refine hs_getr (C := RX12) (T := TX12) (N := 48) hx hb hts (fun w h => List.mem_cons_of_mem _ (inlX12 w h)) hown hK.1 hP h48 (by decide) rfl 13 (by decide) (hts _ (List.mem_cons_of_mem _ wq132)) (fun _ h => h) rfl h49 dX12_stacks_129 ?_
      refine lv_iload_n hx hb dX12_stacks_132 rfl (lv_at hl 3 rfl) ?_
      refine lv_iload hx hb dX12_stacks_133 (lv_at hl 4 rfl) ?_
      refine lv_iadd hx hb dX12_stacks_135 ?_
      obtain ⟨h50, hf⟩ := hs_ck hf
      obtain ⟨h51, hf⟩ := hs_ck hf
      refine hs_iald hx hb hK.1 hP h50 h51 dX12_stacks_136 ?_
      refine lv_if_lt (tgt := 152) hx hb dX12_stacks_137 (by decide) (fun hc => ?_) (fun hc => ?_)
      · replace hf := hs_t hf hc
        exact wX12_stacks_j152 hX (fun z0 g H locs ls hf hP hS hl => ih z0 g hf H locs ls hP hS hl) hex0 hex1 hf hP hS (lv_sub hl [0, 1, 2, 3, 4] rfl)
      · replace hf := hs_f hf hc
        refine lv_aload_n hx hb dX12_stacks_140 rfl (lv_at hl 0 rfl) ?_
        obtain ⟨h52, hf⟩ := hs_ck hf
        refine hs_getr (C := RX12) (T := TX12) (N := 48) hx hb hts (fun w h => List.mem_cons_of_mem _ (inlX12 w h)) hown hK.1 hP h48 (by decide) rfl 14 (by decide) (hts _ (List.mem_cons_of_mem _ wq133)) (fun _ h => h) rfl h52 dX12_stacks_141 ?_
        refine lv_iload_n hx hb dX12_stacks_144 rfl (lv_at hl 3 rfl) ?_
        refine lv_iload hx hb dX12_stacks_145 (lv_at hl 4 rfl) ?_
        refine lv_iadd hx hb dX12_stacks_147 ?_
        obtain ⟨h53, hf⟩ := hs_ck hf
        obtain ⟨h54, hf⟩ := hs_ck hf
        refine hs_zald hx hb hK.1 hP h53 h54 dX12_stacks_148 ?_
        refine lv_if_eq (tgt := 158) hx hb dX12_stacks_149 (by decide) (fun hc => ?_) (fun hc => ?_)
        · replace hf := hs_t hf hc
          refine lv_aload_n hx hb dX12_stacks_158 rfl (lv_at hl 0 rfl) ?_
          refine hs_getr (C := RX12) (T := TX12) (N := 48) hx hb hts (fun w h => List.mem_cons_of_mem _ (inlX12 w h)) hown hK.1 hP h48 (by decide) rfl 14 (by decide) (hts _ (List.mem_cons_of_mem _ wq133)) (fun _ h => h) rfl h52 dX12_stacks_159 ?_
          refine lv_iload_n hx hb dX12_stacks_162 rfl (lv_at hl 3 rfl) ?_
          refine lv_iload hx hb dX12_stacks_163 (lv_at hl 4 rfl) ?_
          refine lv_iadd hx hb dX12_stacks_165 ?_
          refine lv_iconst (v := 1) hx hb dX12_stacks_166 (by decide) ?_
          refine hs_zast hx hb hK.1 hP hS h53 h54 (rfl) dX12_stacks_167 (fun H locs hP hS => ?_)
          refine lv_aload_n hx hb dX12_stacks_168 rfl (lv_at hl 0 rfl) ?_
          refine lv_iload_n hx hb dX12_stacks_169 rfl (lv_at hl 1 rfl) ?_
          refine lv_iload hx hb dX12_stacks_170 (lv_at hl 4 rfl) ?_
          obtain ⟨r56, g55, h57, hf⟩ := hs_bd_some hf
          refine hs_calli (va_runV (As := [.int v1, .int v4]) (rest := []) ⟨hx, hb, hml, hown, hts⟩ (ctX12_goesOn l B D E v0 v1 v4 (hs_wI g ((hs_R g v0 14) - 1) (v3 + v4).toNatClampNeg (1 : Int32)) _ h57) (cwV 2 hts (hs_gV (fun _ h => List.mem_cons_of_mem _ h) wq447 wq448 wq449 wq5 wq450) rfl rfl rfl (by decide +kernel) ⟨Nat.le_of_ble_eq_true rfl, Nat.le_of_ble_eq_true rfl⟩) (hs_preV (r := (RX12, TX12, 48)) hP hK h48 (by decide) rfl) rfl rfl hl.1 rfl (lv_room (Nat.le_of_ble_eq_true rfl)) dX12_stacks_172 ⟨(Nat.le_of_ble_eq_true rfl), (Nat.le_of_ble_eq_true rfl)⟩) hS (fun H locs hP hS => ?_)
          refine lv_istore (lv' := [(5, .int r56), (0, .ref (B + v0)), (1, .int v1), (2, .int v2), (3, .int v3), (4, .int v4)]) hx hb dX12_stacks_175 hl (by decide) rfl (fun ls hl => ?_)
          refine lv_iload hx hb dX12_stacks_177 (lv_at hl 0 rfl) ?_
          refine lv_if_ge (tgt := 185) hx hb dX12_stacks_179 (by decide) (fun hc => ?_) (fun hc => ?_)
          · replace hf := hs_t hf hc
            refine lv_iconst (v := 0) hx hb dX12_stacks_185 (by decide) ?_
            refine lv_istore (lv' := [(4, .int (0 : Int32)), (5, .int r56), (0, .ref (B + v0)), (1, .int v1), (2, .int v2), (3, .int v3)]) hx hb dX12_stacks_186 hl (by decide) rfl (fun ls hl => ?_)
            refine lv_goto (tgt := 122) hx hb dX12_stacks_188 (by decide) ?_
            exact ih _ _ hf _ _ _ hP hS (lv_sub hl [2, 3, 4, 5, 0] rfl)
          · replace hf := hs_f hf hc
            obtain rfl := Option.some.inj hf
            exact hex1 rfl _ _ _ hP hS (lv_sub hl [0] rfl)
        · replace hf := hs_f hf hc
          exact wX12_stacks_j152 hX (fun z0 g H locs ls hf hP hS hl => ih z0 g hf H locs ls hP hS hl) hex0 hex1 hf hP hS (lv_sub hl [0, 1, 2, 3, 4] rfl)

set_option maxHeartbeats 4000000 in
set_option maxRecDepth 100000 in
theorem ctX12_stacks (l : Launch) (B : Nat) (D : va_G) (E : Nat → ClassId) (v0 : Nat) (v1 : Int32) (g : hs_S) (o : Int32 × hs_S) (hf : fX12_stacks v0 v1 g = some o) : Met l yX12_stacks wcX12_stacks rmX12_stacks (hs_Pc B D E g [.ref (B + v0), .int v1]) (hs_Qi B D E o) (0) (0) (hs_F B) := by
  refine Met.ofW (cc := cX12_stacks) (maxL := 6) (ret := (some .int)) (by decide) rfl ?_
  intro p e s m args below meth c s₁ Bd hml hv
  obtain ⟨rfl, hP, hK⟩ := hv
  have hx := Bd.exec
  have hb := Bd.bytes
  have hr := Bd.returns
  have hts := atoms_spec (ws := wcX12_stacks) Bd.pre
  have hown : s.vm.findClass RX12 = some m.cls := findClass_of_methodNamed Bd.named
  have hlocks := Bd.notSynchronized
  have hS : hs_Sx B s.heap s.heap [] := va_S.rf
  have hX : hs_cx cX12_stacks (some .int) 6 RX12 wcX12_stacks p s m (List.toArray [.ref (B + v0), .int v1]) meth c D E := ⟨hx, hb, hr, hml, hown, hts, hlocks, hK⟩
  have hl := lv_entry ([.ref (B + v0), .int v1]) (n := 6) (Nat.le_of_ble_eq_true rfl)
  rw [lg_entry_eq]
  generalize (lg_sl ([.ref (B + v0), .int v1]) ++ List.replicate (6 - (lg_sl ([.ref (B + v0), .int v1])).length) Slot.unset).toArray = ls at hl ⊢
  have hl : lv_has ls 6 [(0, .ref (B + v0)), (1, .int v1)] := hl
  have hP : hs_P B D E g s.heap := hP
  unfold fX12_stacks at hf
  refine lv_aload_n hx hb dX12_stacks_0 rfl (lv_at hl 0 rfl) ?_
  obtain ⟨h1, hf⟩ := hs_ck hf
  obtain ⟨h2, hf⟩ := hs_ck hf
  refine hs_getr (C := RX12) (T := TX12) (N := 48) hx hb hts (fun w h => List.mem_cons_of_mem _ (inlX12 w h)) hown hK.1 hP h1 (by decide) rfl 17 (by decide) (hts _ (List.mem_cons_of_mem _ wq136)) (fun _ h => h) rfl h2 dX12_stacks_1 ?_
  refine lv_iload_n hx hb dX12_stacks_4 rfl (lv_at hl 1 rfl) ?_
  obtain ⟨h3, hf⟩ := hs_ck hf
  obtain ⟨h4, hf⟩ := hs_ck hf
  refine hs_iald hx hb hK.1 hP h3 h4 dX12_stacks_5 ?_
  refine lv_istore_n (lv' := [(2, .int (hs_I g ((hs_R g v0 17) - 1) v1.toNatClampNeg)), (0, .ref (B + v0)), (1, .int v1)]) hx hb dX12_stacks_6 rfl hl (by decide) rfl (fun ls hl => ?_)
  refine lv_sipush (v := 2001) hx hb dX12_stacks_7 (by decide) ?_
  refine lv_iload_n hx hb dX12_stacks_10 rfl (lv_at hl 2 rfl) ?_
  refine lv_imul hx hb dX12_stacks_11 ?_
  refine lv_istore_n (lv' := [(3, .int ((2001 : Int32) * v1)), (2, .int (hs_I g ((hs_R g v0 17) - 1) v1.toNatClampNeg)), (0, .ref (B + v0)), (1, .int v1)]) hx hb dX12_stacks_12 rfl hl (by decide) rfl (fun ls hl => ?_)
  refine lv_iconst (v := 0) hx hb dX12_stacks_13 (by decide) ?_
  refine lv_istore (lv' := [(4, .int (0 : Int32)), (3, .int ((2001 : Int32) * v1)), (2, .int (hs_I g ((hs_R g v0 17) - 1) v1.toNatClampNeg)), (0, .ref (B + v0)), (1, .int v1)]) hx hb dX12_stacks_14 hl (by decide) rfl (fun ls hl => ?_)
  obtain ⟨g20, h21, hf⟩ := hs_bv_some hf
  refine wX12_stacks_16 hX (fun H locs ls hP hS hl => ?_) hs_N _ _ h21 _ _ _ hP hS (lv_sub hl [3, 4, 2, 1, 0] rfl)
  refine lv_aload_n hx hb dX12_stacks_48 rfl (lv_at hl 0 rfl) ?_
  obtain ⟨h22, hf⟩ := hs_ck hf
  obtain ⟨h23, hf⟩ := hs_ck hf
  refine hs_getr (C := RX12) (T := TX12) (N := 48) hx hb hts (fun w h => List.mem_cons_of_mem _ (inlX12 w h)) hown hK.1 hP h22 (by decide) rfl 13 (by decide) (hts _ (List.mem_cons_of_mem _ wq132)) (fun _ h => h) rfl h23 dX12_stacks_49 ?_
  refine lv_iload_n hx hb dX12_stacks_52 rfl (lv_at hl 3 rfl) ?_
  refine lv_iconst (v := 0) hx hb dX12_stacks_53 (by decide) ?_
  obtain ⟨h24, hf⟩ := hs_ck hf
  obtain ⟨h25, hf⟩ := hs_ck hf
  refine hs_iast hx hb hK.1 hP hS h24 h25 dX12_stacks_54 (fun H locs hP hS => ?_)
  refine lv_iconst (v := 0) hx hb dX12_stacks_55 (by decide) ?_
  refine lv_istore (lv' := [(4, .int (0 : Int32)), (0, .ref (B + v0)), (1, .int v1), (2, .int (hs_I g ((hs_R g v0 17) - 1) v1.toNatClampNeg)), (3, .int ((2001 : Int32) * v1))]) hx hb dX12_stacks_56 hl (by decide) rfl (fun ls hl => ?_)
  obtain ⟨k45, g46, h47, hf⟩ := hs_bd_some hf
  refine wX12_stacks_58 hX (fun hlab H locs ls hP hS hl => ?_) (fun hlab H locs ls hP hS hl => ?_) hs_N _ _ h47 _ _ _ hP hS (lv_sub hl [1, 2, 3, 4, 0] rfl)
  · replace hlab : k45 = 0 := hlab
    replace hf := hs_t hf hlab
    refine lv_iconst (v := 0) hx hb dX12_stacks_119 (by decide) ?_
    refine lv_istore (lv' := [(4, .int (0 : Int32)), (0, .ref (B + v0)), (1, .int v1), (2, .int (hs_I g ((hs_R g v0 17) - 1) v1.toNatClampNeg)), (3, .int ((2001 : Int32) * v1))]) hx hb dX12_stacks_120 hl (by decide) rfl (fun ls hl => ?_)
    obtain ⟨k59, x58, g60, h61, hf⟩ := hs_b3_some hf
    refine wX12_stacks_122 hX (fun hlab H locs ls hP hS hl => ?_) (fun hlab H locs ls hP hS hl => ?_) hs_N _ _ h61 _ _ _ hP hS (lv_sub hl [1, 2, 3, 4, 0] rfl)
    · replace hlab : k59 = 0 := hlab
      replace hf := hs_t hf hlab
      refine lv_iconst (v := 0) hx hb dX12_stacks_191 (by decide) ?_
      exact hs_iret hx hb hr hlocks rfl hK hP hS hf dX12_stacks_192
    · replace hlab : k59 = 1 := hlab
      replace hf := hs_f hf (by rw [hlab]; decide)
      refine lv_iload hx hb dX12_stacks_182 (lv_at hl 0 rfl) ?_
      exact hs_iret hx hb hr hlocks rfl hK hP hS hf dX12_stacks_184
  · replace hlab : k45 = 1 := hlab
    replace hf := hs_f hf (by rw [hlab]; decide)
    refine lv_aload_n hx hb dX12_stacks_92 rfl (lv_at hl 0 rfl) ?_
    refine lv_aload_n hx hb dX12_stacks_93 rfl (lv_at hl 0 rfl) ?_
    obtain ⟨h62, hf⟩ := hs_ck hf
    obtain ⟨h63, hf⟩ := hs_ck hf
    refine hs_getr (C := RX12) (T := TX12) (N := 48) hx hb hts (fun w h => List.mem_cons_of_mem _ (inlX12 w h)) hown hK.1 hP h62 (by decide) rfl 18 (by decide) (hts _ (List.mem_cons_of_mem _ wq137)) (fun _ h => h) rfl h63 dX12_stacks_94 ?_
    refine lv_iload_n hx hb dX12_stacks_97 rfl (lv_at hl 1 rfl) ?_
    obtain ⟨h64, hf⟩ := hs_ck hf
    obtain ⟨h65, hf⟩ := hs_ck hf
    refine hs_iald hx hb hK.1 hP h64 h65 dX12_stacks_98 ?_
    obtain ⟨r67, g66, h68, hf⟩ := hs_bd_some hf
    refine hs_calli (va_runV (As := [.int (hs_I g46 ((hs_R g46 v0 18) - 1) v1.toNatClampNeg)]) (rest := []) ⟨hx, hb, hml, hown, hts⟩ (ctX12_wrong l B D E v0 (hs_I g46 ((hs_R g46 v0 18) - 1) v1.toNatClampNeg) g46 _ h68) (cwV 1 hts (hs_gV (fun _ h => List.mem_cons_of_mem _ h) wq404 wq405 wq406 wq5 wq407) rfl rfl rfl (by decide +kernel) ⟨Nat.le_of_ble_eq_true rfl, Nat.le_of_ble_eq_true rfl⟩) (hs_preV (r := (RX12, TX12, 48)) hP hK h62 (by decide) rfl) rfl rfl hl.1 rfl (lv_room (Nat.le_of_ble_eq_true rfl)) dX12_stacks_99 ⟨(Nat.le_of_ble_eq_true rfl), (Nat.le_of_ble_eq_true rfl)⟩) hS (fun H locs hP hS => ?_)
    exact hs_iret hx hb hr hlocks rfl hK hP hS hf dX12_stacks_102

theorem dX12_read_0 : decode cX12_read 0 = .ok (.aload_n 0, 1) := by decide +kernel
theorem dX12_read_1 : decode cX12_read 1 = .ok (.iconst 0, 1) := by decide +kernel
theorem dX12_read_2 : decode cX12_read 2 = .ok (.putfield 127, 3) := by decide +kernel
theorem dX12_read_5 : decode cX12_read 5 = .ok (.aload_n 0, 1) := by decide +kernel
theorem dX12_read_6 : decode cX12_read 6 = .ok (.invokevirtual 137, 3) := by decide +kernel
theorem dX12_read_9 : decode cX12_read 9 = .ok (.istore_n 1, 1) := by decide +kernel
theorem dX12_read_10 : decode cX12_read 10 = .ok (.iload_n 1, 1) := by decide +kernel
theorem dX12_read_11 : decode cX12_read 11 = .ok (.iconst 1, 1) := by decide +kernel
theorem dX12_read_12 : decode cX12_read 12 = .ok (.if_icmp .lt 9, 3) := by decide +kernel
theorem dX12_read_15 : decode cX12_read 15 = .ok (.iload_n 1, 1) := by decide +kernel
theorem dX12_read_16 : decode cX12_read 16 = .ok (.bipush 8, 2) := by decide +kernel
theorem dX12_read_18 : decode cX12_read 18 = .ok (.if_icmp .le 9, 3) := by decide +kernel
theorem dX12_read_21 : decode cX12_read 21 = .ok (.aload_n 0, 1) := by decide +kernel
theorem dX12_read_22 : decode cX12_read 22 = .ok (.iconst 0, 1) := by decide +kernel
theorem dX12_read_23 : decode cX12_read 23 = .ok (.invokevirtual 141, 3) := by decide +kernel
theorem dX12_read_26 : decode cX12_read 26 = .ok (.ireturn, 1) := by decide +kernel
theorem dX12_read_27 : decode cX12_read 27 = .ok (.iconst 0, 1) := by decide +kernel
theorem dX12_read_28 : decode cX12_read 28 = .ok (.istore_n 2, 1) := by decide +kernel
theorem dX12_read_29 : decode cX12_read 29 = .ok (.iload_n 2, 1) := by decide +kernel
theorem dX12_read_30 : decode cX12_read 30 = .ok (.iload_n 1, 1) := by decide +kernel
theorem dX12_read_31 : decode cX12_read 31 = .ok (.if_icmp .ge 22, 3) := by decide +kernel
theorem dX12_read_34 : decode cX12_read 34 = .ok (.aload_n 0, 1) := by decide +kernel
theorem dX12_read_35 : decode cX12_read 35 = .ok (.iload_n 2, 1) := by decide +kernel
theorem dX12_read_36 : decode cX12_read 36 = .ok (.iload_n 1, 1) := by decide +kernel
theorem dX12_read_37 : decode cX12_read 37 = .ok (.invokevirtual 144, 3) := by decide +kernel
theorem dX12_read_40 : decode cX12_read 40 = .ok (.istore_n 3, 1) := by decide +kernel
theorem dX12_read_41 : decode cX12_read 41 = .ok (.iload_n 3, 1) := by decide +kernel
theorem dX12_read_42 : decode cX12_read 42 = .ok (.ifCond .ge 5, 3) := by decide +kernel
theorem dX12_read_45 : decode cX12_read 45 = .ok (.iload_n 3, 1) := by decide +kernel
theorem dX12_read_46 : decode cX12_read 46 = .ok (.ireturn, 1) := by decide +kernel
theorem dX12_read_47 : decode cX12_read 47 = .ok (.iinc 2 1, 3) := by decide +kernel
theorem dX12_read_50 : decode cX12_read 50 = .ok (.goto (-21), 3) := by decide +kernel
theorem dX12_read_53 : decode cX12_read 53 = .ok (.aload_n 0, 1) := by decide +kernel
theorem dX12_read_54 : decode cX12_read 54 = .ok (.getfield 127, 3) := by decide +kernel
theorem dX12_read_57 : decode cX12_read 57 = .ok (.aload_n 0, 1) := by decide +kernel
theorem dX12_read_58 : decode cX12_read 58 = .ok (.getfield 124, 3) := by decide +kernel
theorem dX12_read_61 : decode cX12_read 61 = .ok (.if_icmp .ge 12, 3) := by decide +kernel
theorem dX12_read_64 : decode cX12_read 64 = .ok (.aload_n 0, 1) := by decide +kernel
theorem dX12_read_65 : decode cX12_read 65 = .ok (.aload_n 0, 1) := by decide +kernel
theorem dX12_read_66 : decode cX12_read 66 = .ok (.getfield 127, 3) := by decide +kernel
theorem dX12_read_69 : decode cX12_read 69 = .ok (.invokevirtual 141, 3) := by decide +kernel
theorem dX12_read_72 : decode cX12_read 72 = .ok (.ireturn, 1) := by decide +kernel
theorem dX12_read_73 : decode cX12_read 73 = .ok (.iconst 0, 1) := by decide +kernel
theorem dX12_read_74 : decode cX12_read 74 = .ok (.istore_n 2, 1) := by decide +kernel
theorem dX12_read_75 : decode cX12_read 75 = .ok (.iload_n 2, 1) := by decide +kernel
theorem dX12_read_76 : decode cX12_read 76 = .ok (.iload_n 1, 1) := by decide +kernel
theorem dX12_read_77 : decode cX12_read 77 = .ok (.if_icmp .ge 21, 3) := by decide +kernel
theorem dX12_read_80 : decode cX12_read 80 = .ok (.aload_n 0, 1) := by decide +kernel
theorem dX12_read_81 : decode cX12_read 81 = .ok (.iload_n 2, 1) := by decide +kernel
theorem dX12_read_82 : decode cX12_read 82 = .ok (.invokevirtual 148, 3) := by decide +kernel
theorem dX12_read_85 : decode cX12_read 85 = .ok (.istore_n 3, 1) := by decide +kernel
theorem dX12_read_86 : decode cX12_read 86 = .ok (.iload_n 3, 1) := by decide +kernel
theorem dX12_read_87 : decode cX12_read 87 = .ok (.ifCond .ge 5, 3) := by decide +kernel
theorem dX12_read_90 : decode cX12_read 90 = .ok (.iload_n 3, 1) := by decide +kernel
theorem dX12_read_91 : decode cX12_read 91 = .ok (.ireturn, 1) := by decide +kernel
theorem dX12_read_92 : decode cX12_read 92 = .ok (.iinc 2 1, 3) := by decide +kernel
theorem dX12_read_95 : decode cX12_read 95 = .ok (.goto (-20), 3) := by decide +kernel
theorem dX12_read_98 : decode cX12_read 98 = .ok (.iload_n 1, 1) := by decide +kernel
theorem dX12_read_99 : decode cX12_read 99 = .ok (.ireturn, 1) := by decide +kernel
abbrev wcX12_read : List Cond := .code yX12_read cX12_read 4 (some .int) :: wsL_law
def jX12_read_21 (v0 : Nat) (g : hs_S) : Option (Int32 × hs_S) :=
  if hs_kd g v0 = 10 then
  hs_bd (fX12_wrong v0 (0 : Int32) g) fun r7 g6 =>
  some (r7, g6)
  else none
def lX12_read_29 : Nat → Nat → Int32 → Int32 → hs_S → Option (Nat × Int32 × hs_S)
  | 0, _, _, _, _ => none
  | n + 1, v0, v1, v2, g =>
    if v1 ≤ v2 then (
      some (0, 0, g)
    ) else (
      if hs_kd g v0 = 10 then
      hs_bd (fX12_readMethod v0 v2 v1 g) fun r11 g10 =>
      if 0 ≤ r11 then (
        lX12_read_29 n v0 v1 (v2 + (1 : Int32)) g10
      ) else (
        some (1, r11, g10)
      )
      else none
    )
theorem lX12_read_29_s (n : Nat) (v0 : Nat) (v1 : Int32) (v2 : Int32) (g : hs_S) : lX12_read_29 (n + 1) v0 v1 v2 g =
    if v1 ≤ v2 then (
      some (0, 0, g)
    ) else (
      if hs_kd g v0 = 10 then
      hs_bd (fX12_readMethod v0 v2 v1 g) fun r11 g10 =>
      if 0 ≤ r11 then (
        lX12_read_29 n v0 v1 (v2 + (1 : Int32)) g10
      ) else (
        some (1, r11, g10)
      )
      else none
    ) := rfl
def lX12_read_75 : Nat → Nat → Int32 → Int32 → hs_S → Option (Nat × Int32 × hs_S)
  | 0, _, _, _, _ => none
  | n + 1, v0, v1, v2, g =>
    if v1 ≤ v2 then (
      some (0, 0, g)
    ) else (
      if hs_kd g v0 = 10 then
      hs_bd (fX12_stacks v0 v2 g) fun r20 g19 =>
      if 0 ≤ r20 then (
        lX12_read_75 n v0 v1 (v2 + (1 : Int32)) g19
      ) else (
        some (1, r20, g19)
      )
      else none
    )
theorem lX12_read_75_s (n : Nat) (v0 : Nat) (v1 : Int32) (v2 : Int32) (g : hs_S) : lX12_read_75 (n + 1) v0 v1 v2 g =
    if v1 ≤ v2 then (
      some (0, 0, g)
    ) else (
      if hs_kd g v0 = 10 then
      hs_bd (fX12_stacks v0 v2 g) fun r20 g19 =>
      if 0 ≤ r20 then (
        lX12_read_75 n v0 v1 (v2 + (1 : Int32)) g19
      ) else (
        some (1, r20, g19)
      )
      else none
    ) := rfl
def fX12_read (v0 : Nat) (g : hs_S) : Option (Int32 × hs_S) :=
  if hs_kd g v0 = 10 then
  hs_bd (fX12_one v0 (hs_wI g v0 33 (0 : Int32))) fun r3 g2 =>
  if r3 < (1 : Int32) then (
    jX12_read_21 v0 g2
  ) else (
    if r3 ≤ (8 : Int32) then (
      hs_b3 (lX12_read_29 hs_N v0 r3 (0 : Int32) g2) fun k14 x13 g15 =>
      if k14 = 0 then (
        if hs_kd g15 v0 = 10 then
        if (hs_I g15 v0 2) ≤ (hs_I g15 v0 33) then (
          hs_b3 (lX12_read_75 hs_N v0 r3 (0 : Int32) g15) fun k23 x22 g24 =>
          if k23 = 0 then (
            some (r3, g24)
          ) else (
            some (x22, g24)
          )
        ) else (
          hs_bd (fX12_wrong v0 (hs_I g15 v0 33) g15) fun r27 g26 =>
          some (r27, g26)
        )
        else none
      ) else (
        some (x13, g15)
      )
    ) else (
      jX12_read_21 v0 g2
    )
  )
  else none
abbrev rmX12_read : Room := { frames := 4, cells := 0, slots := 0, locals := 100 }
set_option maxHeartbeats 4000000 in
set_option maxRecDepth 100000 in
theorem wX12_read_j21 {p : Program} {l : Launch} {e : Env} {s : State} {m : MethodId} {args : Array Value} {below : List Frame} {meth : Method} {c : Code} {B : Nat} {D : va_G} {E : Nat → ClassId} (hX : hs_cx cX12_read (some .int) 4 RX12 wcX12_read p s m args meth c D E) {o : Int32 × hs_S}  {v0 : Nat}   {g : hs_S} {H : Heap} {locs : List Loc} {ls : Array Slot} (hf : jX12_read_21 v0 g = some o) (hP : hs_P B D E g H) (hS : hs_Sx B s.heap H locs) (hl : lv_has ls 4 [(0, .ref (B + v0))]) : W p l e rmX12_read s m args below meth c H locs 0 0 (MQ below (hs_Qi B D E o) args s 0 0 (hs_F B)) (F0 m 21 ls []) := by
  obtain ⟨hx, hb, hr, hml, hown, hts, hlocks, hK⟩ := id hX
  unfold jX12_read_21 at hf
  refine lv_aload_n hx hb dX12_read_21 rfl (lv_at hl 0 rfl) ?_
  refine lv_iconst (v := 0) hx hb dX12_read_22 (by decide) ?_
  obtain ⟨h5, hf⟩ := hs_ck hf
  obtain ⟨r7, g6, h8, hf⟩ := hs_bd_some hf
  refine hs_calli (va_runV (As := [.int (0 : Int32)]) (rest := []) ⟨hx, hb, hml, hown, hts⟩ (ctX12_wrong l B D E v0 (0 : Int32) g _ h8) (cwV 1 hts (hs_gV (fun _ h => List.mem_cons_of_mem _ h) wq404 wq405 wq406 wq5 wq407) rfl rfl rfl (by decide +kernel) ⟨Nat.le_of_ble_eq_true rfl, Nat.le_of_ble_eq_true rfl⟩) (hs_preV (r := (RX12, TX12, 48)) hP hK h5 (by decide) rfl) rfl rfl hl.1 rfl (lv_room (Nat.le_of_ble_eq_true rfl)) dX12_read_23 ⟨(Nat.le_of_ble_eq_true rfl), (Nat.le_of_ble_eq_true rfl)⟩) hS (fun H locs hP hS => ?_)
  exact hs_iret hx hb hr hlocks rfl hK hP hS hf dX12_read_26

set_option maxHeartbeats 4000000 in
set_option maxRecDepth 100000 in
theorem wX12_read_29 {p : Program} {l : Launch} {e : Env} {s : State} {m : MethodId} {args : Array Value} {below : List Frame} {meth : Method} {c : Code} {B : Nat} {D : va_G} {E : Nat → ClassId} (hX : hs_cx cX12_read (some .int) 4 RX12 wcX12_read p s m args meth c D E) {Q : State → Prop} {o : Nat × Int32 × hs_S} {v0 : Nat} {v1 : Int32} (hex0 : o.1 = 0 → ∀ (H : Heap) (locs : List Loc) (ls : Array Slot), hs_P B D E (o.2.2) H → hs_Sx B s.heap H locs → lv_has ls 4 [(0, .ref (B + v0)), (1, .int v1)] → W p l e rmX12_read s m args below meth c H locs 0 0 Q (F0 m 53 ls [])) (hex1 : o.1 = 1 → ∀ (H : Heap) (locs : List Loc) (ls : Array Slot), hs_P B D E (o.2.2) H → hs_Sx B s.heap H locs → lv_has ls 4 [(3, .int (o.2.1))] → W p l e rmX12_read s m args below meth c H locs 0 0 Q (F0 m 45 ls [])) : ∀ (n : Nat) (v2 : Int32) (g : hs_S), lX12_read_29 n v0 v1 v2 g = some o → ∀ (H : Heap) (locs : List Loc) (ls : Array Slot), hs_P B D E g H → hs_Sx B s.heap H locs → lv_has ls 4 [(0, .ref (B + v0)), (1, .int v1), (2, .int v2)] → W p l e rmX12_read s m args below meth c H locs 0 0 Q (F0 m 29 ls []) := by
  obtain ⟨hx, hb, hr, hml, hown, hts, hlocks, hK⟩ := id hX
  intro n
  induction n with
  | zero =>
    intro v2 g hf
    cases hf
  | succ n ih =>
    intro v2 g hf H locs ls hP hS hl
    replace hf := (lX12_read_29_s n v0 v1 v2 g).symm.trans hf
    refine lv_iload_n hx hb dX12_read_29 rfl (lv_at hl 2 rfl) ?_
    refine lv_iload_n hx hb dX12_read_30 rfl (lv_at hl 1 rfl) ?_
    refine lv_icmp_ge (tgt := 53) hx hb dX12_read_31 (by decide) (fun hc => ?_) (fun hc => ?_)
    · replace hf := hs_t hf hc
      obtain rfl := Option.some.inj hf
      exact hex0 rfl _ _ _ hP hS (lv_sub hl [0, 1] rfl)
    · replace hf := hs_f hf hc
      refine lv_aload_n hx hb dX12_read_34 rfl (lv_at hl 0 rfl) ?_
      refine lv_iload_n hx hb dX12_read_35 rfl (lv_at hl 2 rfl) ?_
      refine lv_iload_n hx hb dX12_read_36 rfl (lv_at hl 1 rfl) ?_
      obtain ⟨h9, hf⟩ := hs_ck hf
      obtain ⟨r11, g10, h12, hf⟩ := hs_bd_some hf
      refine hs_calli (va_runV (As := [.int v2, .int v1]) (rest := []) ⟨hx, hb, hml, hown, hts⟩ (ctX12_readMethod l B D E v0 v2 v1 g _ h12) (cwV 2 hts (hs_gV (fun _ h => List.mem_cons_of_mem _ h) wq408 wq409 wq410 wq5 wq411) rfl rfl rfl (by decide +kernel) ⟨Nat.le_of_ble_eq_true rfl, Nat.le_of_ble_eq_true rfl⟩) (hs_preV (r := (RX12, TX12, 48)) hP hK h9 (by decide) rfl) rfl rfl hl.1 rfl (lv_room (Nat.le_of_ble_eq_true rfl)) dX12_read_37 ⟨(Nat.le_of_ble_eq_true rfl), (Nat.le_of_ble_eq_true rfl)⟩) hS (fun H locs hP hS => ?_)
      refine lv_istore_n (lv' := [(3, .int r11), (0, .ref (B + v0)), (1, .int v1), (2, .int v2)]) hx hb dX12_read_40 rfl hl (by decide) rfl (fun ls hl => ?_)
      refine lv_iload_n hx hb dX12_read_41 rfl (lv_at hl 0 rfl) ?_
      refine lv_if_ge (tgt := 47) hx hb dX12_read_42 (by decide) (fun hc => ?_) (fun hc => ?_)
      · replace hf := hs_t hf hc
        refine lv_iinc (v := (v2 + (1 : Int32))) (lv' := [(2, .int (v2 + (1 : Int32))), (3, .int r11), (0, .ref (B + v0)), (1, .int v1)]) hx hb dX12_read_47 hl (k := 3) rfl (by rfl) (by decide) rfl (fun ls hl => ?_)
        refine lv_goto (tgt := 29) hx hb dX12_read_50 (by decide) ?_
        exact ih _ _ hf _ _ _ hP hS (lv_sub hl [2, 3, 0] rfl)
      · replace hf := hs_f hf hc
        obtain rfl := Option.some.inj hf
        exact hex1 rfl _ _ _ hP hS (lv_sub hl [0] rfl)

set_option maxHeartbeats 4000000 in
set_option maxRecDepth 100000 in
theorem wX12_read_75 {p : Program} {l : Launch} {e : Env} {s : State} {m : MethodId} {args : Array Value} {below : List Frame} {meth : Method} {c : Code} {B : Nat} {D : va_G} {E : Nat → ClassId} (hX : hs_cx cX12_read (some .int) 4 RX12 wcX12_read p s m args meth c D E) {Q : State → Prop} {o : Nat × Int32 × hs_S} {v0 : Nat} {v1 : Int32} (hex0 : o.1 = 0 → ∀ (H : Heap) (locs : List Loc) (ls : Array Slot), hs_P B D E (o.2.2) H → hs_Sx B s.heap H locs → lv_has ls 4 [(1, .int v1)] → W p l e rmX12_read s m args below meth c H locs 0 0 Q (F0 m 98 ls [])) (hex1 : o.1 = 1 → ∀ (H : Heap) (locs : List Loc) (ls : Array Slot), hs_P B D E (o.2.2) H → hs_Sx B s.heap H locs → lv_has ls 4 [(3, .int (o.2.1))] → W p l e rmX12_read s m args below meth c H locs 0 0 Q (F0 m 90 ls [])) : ∀ (n : Nat) (v2 : Int32) (g : hs_S), lX12_read_75 n v0 v1 v2 g = some o → ∀ (H : Heap) (locs : List Loc) (ls : Array Slot), hs_P B D E g H → hs_Sx B s.heap H locs → lv_has ls 4 [(0, .ref (B + v0)), (1, .int v1), (2, .int v2)] → W p l e rmX12_read s m args below meth c H locs 0 0 Q (F0 m 75 ls []) := by
  obtain ⟨hx, hb, hr, hml, hown, hts, hlocks, hK⟩ := id hX
  intro n
  induction n with
  | zero =>
    intro v2 g hf
    cases hf
  | succ n ih =>
    intro v2 g hf H locs ls hP hS hl
    replace hf := (lX12_read_75_s n v0 v1 v2 g).symm.trans hf
    refine lv_iload_n hx hb dX12_read_75 rfl (lv_at hl 2 rfl) ?_
    refine lv_iload_n hx hb dX12_read_76 rfl (lv_at hl 1 rfl) ?_
    refine lv_icmp_ge (tgt := 98) hx hb dX12_read_77 (by decide) (fun hc => ?_) (fun hc => ?_)
    · replace hf := hs_t hf hc
      obtain rfl := Option.some.inj hf
      exact hex0 rfl _ _ _ hP hS (lv_sub hl [1] rfl)
    · replace hf := hs_f hf hc
      refine lv_aload_n hx hb dX12_read_80 rfl (lv_at hl 0 rfl) ?_
      refine lv_iload_n hx hb dX12_read_81 rfl (lv_at hl 2 rfl) ?_
      obtain ⟨h18, hf⟩ := hs_ck hf
      obtain ⟨r20, g19, h21, hf⟩ := hs_bd_some hf
      refine hs_calli (va_runV (As := [.int v2]) (rest := []) ⟨hx, hb, hml, hown, hts⟩ (ctX12_stacks l B D E v0 v2 g _ h21) (cwV 1 hts (hs_gV (fun _ h => List.mem_cons_of_mem _ h) wq443 wq444 wq445 wq5 wq446) rfl rfl rfl (by decide +kernel) ⟨Nat.le_of_ble_eq_true rfl, Nat.le_of_ble_eq_true rfl⟩) (hs_preV (r := (RX12, TX12, 48)) hP hK h18 (by decide) rfl) rfl rfl hl.1 rfl (lv_room (Nat.le_of_ble_eq_true rfl)) dX12_read_82 ⟨(Nat.le_of_ble_eq_true rfl), (Nat.le_of_ble_eq_true rfl)⟩) hS (fun H locs hP hS => ?_)
      refine lv_istore_n (lv' := [(3, .int r20), (0, .ref (B + v0)), (1, .int v1), (2, .int v2)]) hx hb dX12_read_85 rfl hl (by decide) rfl (fun ls hl => ?_)
      refine lv_iload_n hx hb dX12_read_86 rfl (lv_at hl 0 rfl) ?_
      refine lv_if_ge (tgt := 92) hx hb dX12_read_87 (by decide) (fun hc => ?_) (fun hc => ?_)
      · replace hf := hs_t hf hc
        refine lv_iinc (v := (v2 + (1 : Int32))) (lv' := [(2, .int (v2 + (1 : Int32))), (3, .int r20), (0, .ref (B + v0)), (1, .int v1)]) hx hb dX12_read_92 hl (k := 3) rfl (by rfl) (by decide) rfl (fun ls hl => ?_)
        refine lv_goto (tgt := 75) hx hb dX12_read_95 (by decide) ?_
        exact ih _ _ hf _ _ _ hP hS (lv_sub hl [2, 3, 0] rfl)
      · replace hf := hs_f hf hc
        obtain rfl := Option.some.inj hf
        exact hex1 rfl _ _ _ hP hS (lv_sub hl [0] rfl)

set_option maxHeartbeats 4000000 in
set_option maxRecDepth 100000 in
theorem ctX12_read (l : Launch) (B : Nat) (D : va_G) (E : Nat → ClassId) (v0 : Nat) (g : hs_S) (o : Int32 × hs_S) (hf : fX12_read v0 g = some o) : Met l yX12_read wcX12_read rmX12_read (hs_Pc B D E g [.ref (B + v0)]) (hs_Qi B D E o) (0) (0) (hs_F B) := by
  refine Met.ofW (cc := cX12_read) (maxL := 4) (ret := (some .int)) (by decide) rfl ?_
  intro p e s m args below meth c s₁ Bd hml hv
  obtain ⟨rfl, hP, hK⟩ := hv
  have hx := Bd.exec
  have hb := Bd.bytes
  have hr := Bd.returns
  have hts := atoms_spec (ws := wcX12_read) Bd.pre
  have hown : s.vm.findClass RX12 = some m.cls := findClass_of_methodNamed Bd.named
  have hlocks := Bd.notSynchronized
  have hS : hs_Sx B s.heap s.heap [] := va_S.rf
  have hX : hs_cx cX12_read (some .int) 4 RX12 wcX12_read p s m (List.toArray [.ref (B + v0)]) meth c D E := ⟨hx, hb, hr, hml, hown, hts, hlocks, hK⟩
  have hl := lv_entry ([.ref (B + v0)]) (n := 4) (Nat.le_of_ble_eq_true rfl)
  rw [lg_entry_eq]
  generalize (lg_sl ([.ref (B + v0)]) ++ List.replicate (4 - (lg_sl ([.ref (B + v0)])).length) Slot.unset).toArray = ls at hl ⊢
  have hl : lv_has ls 4 [(0, .ref (B + v0))] := hl
  have hP : hs_P B D E g s.heap := hP
  unfold fX12_read at hf
  refine lv_aload_n hx hb dX12_read_0 rfl (lv_at hl 0 rfl) ?_
  refine lv_iconst (v := 0) hx hb dX12_read_1 (by decide) ?_
  obtain ⟨h1, hf⟩ := hs_ck hf
  refine hs_puti (C := RX12) (T := TX12) (N := 48) hx hb hts (fun w h => List.mem_cons_of_mem _ (inlX12 w h)) tyX12 tyX12_ok nmX12 hown hK.1 hP hS h1 (by decide) rfl 33 (by decide) (hts _ (List.mem_cons_of_mem _ wq399)) (fun _ h => h) (Or.inl rfl) rfl rfl rfl dX12_read_2 (fun H locs hP hS => ?_)
  refine lv_aload_n hx hb dX12_read_5 rfl (lv_at hl 0 rfl) ?_
  obtain ⟨r3, g2, h4, hf⟩ := hs_bd_some hf
  refine hs_calli (va_runV (As := []) (rest := []) ⟨hx, hb, hml, hown, hts⟩ (ctX12_one l B D E v0 (hs_wI g v0 33 (0 : Int32)) _ h4) (cwV 0 hts (hs_gV (fun _ h => List.mem_cons_of_mem _ h) wq400 wq401 wq402 wq5 wq403) rfl rfl rfl (by decide +kernel) ⟨Nat.le_of_ble_eq_true rfl, Nat.le_of_ble_eq_true rfl⟩) (hs_preV (r := (RX12, TX12, 48)) hP hK h1 (by decide) rfl) rfl rfl hl.1 rfl (lv_room (Nat.le_of_ble_eq_true rfl)) dX12_read_6 ⟨(Nat.le_of_ble_eq_true rfl), (Nat.le_of_ble_eq_true rfl)⟩) hS (fun H locs hP hS => ?_)
  refine lv_istore_n (lv' := [(1, .int r3), (0, .ref (B + v0))]) hx hb dX12_read_9 rfl hl (by decide) rfl (fun ls hl => ?_)
  refine lv_iload_n hx hb dX12_read_10 rfl (lv_at hl 0 rfl) ?_
  refine lv_iconst (v := 1) hx hb dX12_read_11 (by decide) ?_
  refine lv_icmp_lt (tgt := 21) hx hb dX12_read_12 (by decide) (fun hc => ?_) (fun hc => ?_)
  · replace hf := hs_t hf hc
    exact wX12_read_j21 hX hf hP hS (lv_sub hl [1] rfl)
  · replace hf := hs_f hf hc
    refine lv_iload_n hx hb dX12_read_15 rfl (lv_at hl 0 rfl) ?_
    refine lv_bipush (v := 8) hx hb dX12_read_16 (by decide) ?_
    refine lv_icmp_le (tgt := 27) hx hb dX12_read_18 (by decide) (fun hc => ?_) (fun hc => ?_)
    · replace hf := hs_t hf hc
      refine lv_iconst (v := 0) hx hb dX12_read_27 (by decide) ?_
      refine lv_istore_n (lv' := [(2, .int (0 : Int32)), (1, .int r3), (0, .ref (B + v0))]) hx hb dX12_read_28 rfl hl (by decide) rfl (fun ls hl => ?_)
      obtain ⟨k14, x13, g15, h16, hf⟩ := hs_b3_some hf
      refine wX12_read_29 hX (fun hlab H locs ls hP hS hl => ?_) (fun hlab H locs ls hP hS hl => ?_) hs_N _ _ h16 _ _ _ hP hS (lv_sub hl [2, 1, 0] rfl)
      · replace hlab : k14 = 0 := hlab
        replace hf := hs_t hf hlab
        refine lv_aload_n hx hb dX12_read_53 rfl (lv_at hl 0 rfl) ?_
        obtain ⟨h17, hf⟩ := hs_ck hf
        refine hs_geti (C := RX12) (T := TX12) (N := 48) hx hb hts (fun w h => List.mem_cons_of_mem _ (inlX12 w h)) hown hK.1 hP h17 (by decide) rfl 33 (by decide) (hts _ (List.mem_cons_of_mem _ wq399)) (fun _ h => h) rfl dX12_read_54 ?_
        refine lv_aload_n hx hb dX12_read_57 rfl (lv_at hl 0 rfl) ?_
        refine hs_geti (C := RX12) (T := TX12) (N := 48) hx hb hts (fun w h => List.mem_cons_of_mem _ (inlX12 w h)) hown hK.1 hP h17 (by decide) rfl 2 (by decide) (hts _ (List.mem_cons_of_mem _ wq176)) (fun _ h => h) rfl dX12_read_58 ?_
        refine lv_icmp_ge (tgt := 73) hx hb dX12_read_61 (by decide) (fun hc => ?_) (fun hc => ?_)
        · replace hf := hs_t hf hc
          refine lv_iconst (v := 0) hx hb dX12_read_73 (by decide) ?_
          refine lv_istore_n (lv' := [(2, .int (0 : Int32)), (0, .ref (B + v0)), (1, .int r3)]) hx hb dX12_read_74 rfl hl (by decide) rfl (fun ls hl => ?_)
          obtain ⟨k23, x22, g24, h25, hf⟩ := hs_b3_some hf
          refine wX12_read_75 hX (fun hlab H locs ls hP hS hl => ?_) (fun hlab H locs ls hP hS hl => ?_) hs_N _ _ h25 _ _ _ hP hS (lv_sub hl [1, 2, 0] rfl)
          · replace hlab : k23 = 0 := hlab
            replace hf := hs_t hf hlab
            refine lv_iload_n hx hb dX12_read_98 rfl (lv_at hl 0 rfl) ?_
            exact hs_iret hx hb hr hlocks rfl hK hP hS hf dX12_read_99
          · replace hlab : k23 = 1 := hlab
            replace hf := hs_f hf (by rw [hlab]; decide)
            refine lv_iload_n hx hb dX12_read_90 rfl (lv_at hl 0 rfl) ?_
            exact hs_iret hx hb hr hlocks rfl hK hP hS hf dX12_read_91
        · replace hf := hs_f hf hc
          refine lv_aload_n hx hb dX12_read_64 rfl (lv_at hl 0 rfl) ?_
          refine lv_aload_n hx hb dX12_read_65 rfl (lv_at hl 0 rfl) ?_
          refine hs_geti (C := RX12) (T := TX12) (N := 48) hx hb hts (fun w h => List.mem_cons_of_mem _ (inlX12 w h)) hown hK.1 hP h17 (by decide) rfl 33 (by decide) (hts _ (List.mem_cons_of_mem _ wq399)) (fun _ h => h) rfl dX12_read_66 ?_
          obtain ⟨r27, g26, h28, hf⟩ := hs_bd_some hf
          refine hs_calli (va_runV (As := [.int (hs_I g15 v0 33)]) (rest := []) ⟨hx, hb, hml, hown, hts⟩ (ctX12_wrong l B D E v0 (hs_I g15 v0 33) g15 _ h28) (cwV 1 hts (hs_gV (fun _ h => List.mem_cons_of_mem _ h) wq404 wq405 wq406 wq5 wq407) rfl rfl rfl (by decide +kernel) ⟨Nat.le_of_ble_eq_true rfl, Nat.le_of_ble_eq_true rfl⟩) (hs_preV (r := (RX12, TX12, 48)) hP hK h17 (by decide) rfl) rfl rfl hl.1 rfl (lv_room (Nat.le_of_ble_eq_true rfl)) dX12_read_69 ⟨(Nat.le_of_ble_eq_true rfl), (Nat.le_of_ble_eq_true rfl)⟩) hS (fun H locs hP hS => ?_)
          exact hs_iret hx hb hr hlocks rfl hK hP hS hf dX12_read_72
      · replace hlab : k14 = 1 := hlab
        replace hf := hs_f hf (by rw [hlab]; decide)
        refine lv_iload_n hx hb dX12_read_45 rfl (lv_at hl 0 rfl) ?_
        exact hs_iret hx hb hr hlocks rfl hK hP hS hf dX12_read_46
    · replace hf := hs_f hf hc
      exact wX12_read_j21 hX hf hP hS (lv_sub hl [1] rfl)

